theorem oz_03ccb9bf57 {a0 : Int} (h0 : 0 ≤ a0) (h1 : a0 ≤ 12) : 0 ≤ a0 ∧ a0 < ((13 : Nat) : Int) := by omega
theorem oz_52b7a52644 {a1 : Int} {n0 : Nat} (h0 : (n0 : Int) = a1) (h1 : a1 ≤ 12) : n0 < 13 := by omega
theorem oz_c79f30f34c  : (-1 : Int) ≤ 12 := by omega
theorem oz_4bc36f64a0 {a0 a1 a2 a3 : Int} {n4 : Nat} (h0 : a0 = a1 + a2) (h1 : ¬ a2 < (1 : Int)) (h2 : a1 = 3 * a3) (h3 : a3 = (n4 : Int)) : -1 ≤ a0 := by omega
theorem oz_9c199dfd7f {n0 n1 n2 : Nat}  : 0 + 0 ≤ (5 * n0 + 4 * n1 + n2) := by omega
theorem oz_54615505fb {n0 n1 n2 : Nat}  : 0 + 0 ≤ (9804 * n0 + 342 * n1 + 36864 * n2) := by omega
theorem oz_86e49526c7 {n0 n1 n2 : Nat}  : 0 ≤ (5 * n0 + 4 * n1 + n2) := by omega
theorem oz_fc3b58e969 {n0 n1 n2 : Nat}  : 0 ≤ (9804 * n0 + 342 * n1 + 36864 * n2) := by omega
theorem oz_9d19b050ad {n0 n1 n2 : Nat}  : 0 + (5 * n0 + 4 * n1 + n2) ≤ 5 * n0 + 4 * n1 + n2 := by omega
theorem oz_b5592d0ae7 {n0 n1 n2 : Nat}  : 0 + (9804 * n0 + 342 * n1 + 36864 * n2) ≤ 9804 * n0 + 342 * n1 + 36864 * n2 := by omega
theorem oz_50e7088b63 {a1 : Int} {n0 : Nat} (h0 : (n0 : Int) = a1) (h1 : a1 = -1 ∨ (0 ≤ a1 ∧ a1 ≤ 12)) : n0 < 13 := by omega
theorem m6_139 : Cond.fieldLink "HomeSystem$Kernel" 78 "HomeSystem$AnyProcess" "outcome" "I" ∈ AL := AL_6 (List.mem_of_getElem? (i := 139) rfl) rfl
theorem m6_161 : Cond.fieldLink "HomeSystem$Kernel" 111 "HomeSystem$AnyProcess" "first" "I" ∈ AL := AL_6 (List.mem_of_getElem? (i := 161) rfl) rfl
theorem m6_149 : Cond.fieldLink "HomeSystem$Kernel" 142 "HomeSystem$AnyProcess" "children" "I" ∈ AL := AL_6 (List.mem_of_getElem? (i := 149) rfl) rfl
theorem m6_133 : Cond.fieldLink "HomeSystem$Kernel" 101 "HomeSystem$AnyProcess" "id" "I" ∈ AL := AL_6 (List.mem_of_getElem? (i := 133) rfl) rfl
theorem m8_151 : Cond.methodLink "HomeSystem$Kernel" 70 ⟨"HomeSystem$Kernel", "isRunning", "(I)Z"⟩ ∈ AL := AL_8 (List.mem_of_getElem? (i := 151) rfl) rfl
theorem m8_154 : Cond.code ⟨"HomeSystem$Kernel", "isRunning", "(I)Z"⟩ prog_4_method_4_code 2 (Option.some FieldType.boolean) ∈ AL := AL_8 (List.mem_of_getElem? (i := 154) rfl) rfl
theorem m1_19 : Cond.initialized "HomeSystem$Kernel" ∈ AL := AL_1 (List.mem_of_getElem? (i := 19) rfl) rfl
theorem ms_6_1 : Cond.selects "HomeSystem$Kernel" ⟨"HomeSystem$Kernel", "isRunning", "(I)Z"⟩ ⟨"HomeSystem$Kernel", "isRunning", "(I)Z"⟩ ∈ AL := AL_p (q := (⟨"HomeSystem$Kernel", "isRunning", "(I)Z"⟩, 10)) (by unfold lw_privs; exact List.mem_append_right _ (List.mem_append_right _ (List.mem_append_right _ (List.mem_append_right _ (List.mem_append_right _ (List.mem_append_left _ (List.mem_of_getElem? (i := 1) rfl)))))))
theorem m8_153 : Cond.instanceMethod ⟨"HomeSystem$Kernel", "isRunning", "(I)Z"⟩ ∈ AL := AL_8 (List.mem_of_getElem? (i := 153) rfl) rfl
theorem m8_67 : Cond.methodLink "HomeSystem$Kernel" 117 ⟨"HomeSystem$AnyProcess", "answer", "(I)V"⟩ ∈ AL := AL_8 (List.mem_of_getElem? (i := 67) rfl) rfl
theorem m8_75 : Cond.code ⟨"HomeSystem$TextProcess", "answer", "(I)V"⟩ prog_11_method_4_code 2 (Option.none : Option Jvm.ClassFile.FieldType) ∈ AL := AL_8 (List.mem_of_getElem? (i := 75) rfl) rfl
theorem m8_69 : Cond.sameMethod "HomeSystem$AnyProcess" "HomeSystem$AnyProcess" "answer" "(I)V" ∈ AL := AL_8 (List.mem_of_getElem? (i := 69) rfl) rfl
theorem m8_74 : Cond.instanceMethod ⟨"HomeSystem$TextProcess", "answer", "(I)V"⟩ ∈ AL := AL_8 (List.mem_of_getElem? (i := 74) rfl) rfl
theorem m8_73 : Cond.selects "HomeSystem$TextProcess" ⟨"HomeSystem$AnyProcess", "answer", "(I)V"⟩ ⟨"HomeSystem$TextProcess", "answer", "(I)V"⟩ ∈ AL := AL_8 (List.mem_of_getElem? (i := 73) rfl) rfl
theorem m8_68n : Cond.declares ⟨"HomeSystem$AnyProcess", "answer", "(I)V"⟩ ∈ tables_1 := by unfold tables_1; exact List.mem_append_right _ (List.mem_append_right _ (List.mem_append_right _ (List.mem_append_right _ (List.mem_append_right _ (List.mem_append_right _ (List.mem_append_right _ (List.mem_append_left _ (List.mem_of_getElem? (i := 68) rfl))))))))
theorem m6_166 : Cond.fieldLink "HomeSystem$Kernel" 120 "HomeSystem$AnyProcess" "second" "I" ∈ AL := AL_6 (List.mem_of_getElem? (i := 166) rfl) rfl
theorem m8_84 : Cond.methodLink "HomeSystem$Kernel" 74 ⟨"HomeSystem$AnyProcess", "finish", "(II)V"⟩ ∈ AL := AL_8 (List.mem_of_getElem? (i := 84) rfl) rfl
theorem m8_86 : Cond.sameMethod "HomeSystem$AnyProcess" "HomeSystem$AnyProcess" "finish" "(II)V" ∈ AL := AL_8 (List.mem_of_getElem? (i := 86) rfl) rfl
theorem m8_88 : Cond.selects "HomeSystem$TextProcess" ⟨"HomeSystem$AnyProcess", "finish", "(II)V"⟩ ⟨"HomeSystem$AnyProcess", "finish", "(II)V"⟩ ∈ AL := AL_8 (List.mem_of_getElem? (i := 88) rfl) rfl
theorem m8_72 : Cond.code ⟨"HomeSystem$RawProcess", "answer", "(I)V"⟩ prog_8_method_4_code 2 (Option.none : Option Jvm.ClassFile.FieldType) ∈ AL := AL_8 (List.mem_of_getElem? (i := 72) rfl) rfl
theorem m8_71 : Cond.instanceMethod ⟨"HomeSystem$RawProcess", "answer", "(I)V"⟩ ∈ AL := AL_8 (List.mem_of_getElem? (i := 71) rfl) rfl
theorem m8_70 : Cond.selects "HomeSystem$RawProcess" ⟨"HomeSystem$AnyProcess", "answer", "(I)V"⟩ ⟨"HomeSystem$RawProcess", "answer", "(I)V"⟩ ∈ AL := AL_8 (List.mem_of_getElem? (i := 70) rfl) rfl
theorem m8_87 : Cond.selects "HomeSystem$RawProcess" ⟨"HomeSystem$AnyProcess", "finish", "(II)V"⟩ ⟨"HomeSystem$AnyProcess", "finish", "(II)V"⟩ ∈ AL := AL_8 (List.mem_of_getElem? (i := 87) rfl) rfl
theorem m6_158 : Cond.fieldLink "HomeSystem$Kernel" 108 "HomeSystem$AnyProcess" "which" "I" ∈ AL := AL_6 (List.mem_of_getElem? (i := 158) rfl) rfl
theorem m6_146 : Cond.fieldLink "HomeSystem$Kernel" 145 "HomeSystem$AnyProcess" "given" "I" ∈ AL := AL_6 (List.mem_of_getElem? (i := 146) rfl) rfl
abbrev b_Ker_isRunning : ByteArray := prog_4_method_4_code
def y_Ker_isRunning : MethodName := ⟨"HomeSystem$Kernel", "isRunning", "(I)Z"⟩
theorem d_Ker_isRunning_0 : decode b_Ker_isRunning 0 = .ok (.aload_n 0, 1) := by decide +kernel
theorem d_Ker_isRunning_1 : decode b_Ker_isRunning 1 = .ok (.getfield 23, 3) := by decide +kernel
theorem d_Ker_isRunning_4 : decode b_Ker_isRunning 4 = .ok (.iload_n 1, 1) := by decide +kernel
theorem d_Ker_isRunning_5 : decode b_Ker_isRunning 5 = .ok (.aaload, 1) := by decide +kernel
theorem d_Ker_isRunning_6 : decode b_Ker_isRunning 6 = .ok (.ifnull 21, 3) := by decide +kernel
theorem d_Ker_isRunning_9 : decode b_Ker_isRunning 9 = .ok (.aload_n 0, 1) := by decide +kernel
theorem d_Ker_isRunning_10 : decode b_Ker_isRunning 10 = .ok (.getfield 23, 3) := by decide +kernel
theorem d_Ker_isRunning_13 : decode b_Ker_isRunning 13 = .ok (.iload_n 1, 1) := by decide +kernel
theorem d_Ker_isRunning_14 : decode b_Ker_isRunning 14 = .ok (.aaload, 1) := by decide +kernel
theorem d_Ker_isRunning_15 : decode b_Ker_isRunning 15 = .ok (.getfield 78, 3) := by decide +kernel
theorem d_Ker_isRunning_18 : decode b_Ker_isRunning 18 = .ok (.bipush (-2), 2) := by decide +kernel
theorem d_Ker_isRunning_20 : decode b_Ker_isRunning 20 = .ok (.if_icmp .ne 7, 3) := by decide +kernel
theorem d_Ker_isRunning_23 : decode b_Ker_isRunning 23 = .ok (.iconst 1, 1) := by decide +kernel
theorem d_Ker_isRunning_24 : decode b_Ker_isRunning 24 = .ok (.goto 4, 3) := by decide +kernel
theorem d_Ker_isRunning_27 : decode b_Ker_isRunning 27 = .ok (.iconst 0, 1) := by decide +kernel
theorem d_Ker_isRunning_28 : decode b_Ker_isRunning 28 = .ok (.ireturn, 1) := by decide +kernel
theorem q_Ker_isRunning : px_y y_Ker_isRunning 1 := by unfold px_y; decide +kernel
set_option maxHeartbeats 4000000 in
set_option maxRecDepth 100000 in
theorem c_k_isRunning (l : Launch) (D : va_G) (cs : Nat → ClassId) (hk : Nat) (kr : Nat → Nat) (pq : Nat → Option Nat) (pz : Nat → Option Nat) (tq : Nat → Option Nat) (rq : Nat → Option Nat) (kf : Nat → Int32) (ka : Nat → Nat → Int32) (TR : Nat → Nat → Nat) (TO : Nat → Option Nat) (TF : Nat → Nat → Int32) (TA : Nat → Nat → Nat → Int32) (RR : Nat → Nat → Nat) (RM : Nat → Option Nat) (RW : Nat → Option Nat) (RF : Nat → Nat → Int32) (RA : Nat → Nat → Nat → Int32) (RC : Nat → Nat → Int32) (PV : Nat → Pvs) (p0 : Int32)  (g0 : 0 ≤ p0.toInt) (g1 : p0.toInt ≤ 12) (hki : KnI pq PV pz tq rq TO TF TA RW RF) : MetI l y_Ker_isRunning b_Ker_isRunning 2 (.boolean) D cs 0 0 (0) (0) [.ref hk, .int p0] [wd_Ker cs hk kr (fun _ => none) kf ka (gKe pq pz tq rq), fm 13 (fTx cs tq TR TO TF TA), fm 13 (fRw cs rq RR RM RW RF RA RC), fm 8 (fPp cs pq PV)] (fun _ => True) (fun v ps => (ps = [wd_Ker cs hk kr (fun _ => none) kf ka (gKe pq pz tq rq), fm 13 (fTx cs tq TR TO TF TA), fm 13 (fRw cs rq RR RM RW RF RA RC), fm 8 (fPp cs pq PV)]) ∧ (v = 0 ∨ v = 1) ∧ (NnP pz p0 v)) := by
  refine px_enter (by decide) (Nat.le_of_ble_eq_true rfl) ?_
  intro p e s m below meth c A ls hAe S hr hlk hnm hA hT hX hw hl
  have hl : lv_has ls 2 [(0, .ref hk), (1, .int p0)] := hl
  have lp0 := Int32.le_toInt p0
  have up0 := Int32.toInt_lt p0
  have cstm2 : ((-2) : Int32).toInt = (-2) := rfl
  have cst0 : (0 : Int32).toInt = 0 := rfl
  have cst1 : (1 : Int32).toInt = 1 := rfl
  refine lv_aload_n S.x S.b d_Ker_isRunning_0 rfl (lv_at hl 0 rfl) ?_
  refine px_get S k_Ker hT hw 0 0 2 (v := .ref (kr 2)) rfl rfl rfl (by decide) m2_222 d_Ker_isRunning_1 ?_
  refine lv_iload_n S.x S.b d_Ker_isRunning_4 rfl (lv_at hl 1 rfl) ?_
  refine px_aald S hT hw 0 3 6 (n := 13) (f := pz) rfl rfl rfl (x := p0) (vp_in_iff.mpr (by first | exact oz_03ccb9bf57 g0 g1 | (constructor <;> omega))) d_Ker_isRunning_5 ?_
  refine lq_top (fun y1 hy1 => ?_)
  refine lq_ifnull (x := y1) (tgt := 27) S.x S.b d_Ker_isRunning_6 (by decide) (fun c2 => ?_) (fun q3 c2 => ?_)
  ·
    subst c2
    have hc5 := cl_nat (x := p0) (by first | exact g0 | omega)
    have hi5 : p0.toNatClampNeg < 13 := by first | exact oz_52b7a52644 hc5 g1 | omega
    have hr5 := hy1.symm
    refine lv_iconst (v := 0) S.x S.b d_Ker_isRunning_27 (by decide) ?_
    exact px_iret (v := 0) S hr rfl hlk hAe hw (Nat.le_of_ble_eq_true rfl) (Nat.le_of_ble_eq_true rfl) (⟨rfl, (show (0 : Int32) = 0 ∨ (0 : Int32) = 1 from by first | exact Or.inl rfl | exact Or.inr rfl | exact z_or (by omega)), (show NnP pz p0 (0 : Int32) from (fun h9 => absurd h9 (by decide)))⟩) d_Ker_isRunning_28
  ·
    subst c2
    have hc6 := cl_nat (x := p0) (by first | exact g0 | omega)
    have hi6 : p0.toNatClampNeg < 13 := by first | exact oz_52b7a52644 hc6 g1 | omega
    have hr6 := hy1.symm
    refine lv_aload_n S.x S.b d_Ker_isRunning_9 rfl (lv_at hl 0 rfl) ?_
    refine px_get S k_Ker hT hw 0 0 2 (v := .ref (kr 2)) rfl rfl rfl (by decide) m2_222 d_Ker_isRunning_10 ?_
    refine lv_iload_n S.x S.b d_Ker_isRunning_13 rfl (lv_at hl 1 rfl) ?_
    refine px_aaldS S hT hw 0 3 6 (n := 13) (f := pz) rfl rfl rfl (x := p0) (vp_in_iff.mpr (by first | exact oz_03ccb9bf57 g0 g1 | (constructor <;> omega))) (sk := q3) hr6 d_Ker_isRunning_14 ?_
    rcases hki.2.2.2 p0.toNatClampNeg hi6 with hno | ⟨h9, e9, hcu7⟩ | ⟨h9, e9, hcu7⟩
    · rw [hno] at hr6; cases hr6
    ·
      cases (hr6.symm.trans e9)
      obtain ⟨j8, hp8, hj8, hjq8, hto8, hf08⟩ := hcu7.2
      have hw : pw D A s.heap _ _ [wd_Ker cs hk kr (fun _ => none) kf ka (gKe pq pz tq rq), fm 13 (fRw cs rq RR RM RW RF RA RC), fm 8 (fPp cs pq PV), fm 13 (fTx cs tq TR TO TF TA)] := hw.sub [0, 2, 3, 1] rfl rfl
      have hw : pw D A s.heap _ _ [wd_Ker cs hk kr (fun _ => none) kf ka (gKe pq pz tq rq), fm 13 (fRw cs rq RR RM RW RF RA RC), fm 8 (fPp cs pq PV), fo 13 (fTx cs tq TR TO TF TA) p0.toNatClampNeg, wd_Txp cs q3 (TR p0.toNatClampNeg) (fun k => if k = 3 then (some hp8) else none) (TF p0.toNatClampNeg) (TA p0.toNatClampNeg) (fun _ _ => none)] := ftx_out (pr := [wd_Ker cs hk kr (fun _ => none) kf ka (gKe pq pz tq rq), fm 13 (fRw cs rq RR RM RW RF RA RC), fm 8 (fPp cs pq PV)]) hw hi6 hcu7.1 hto8
      have htn9 : TxN p0.toNatClampNeg (TF p0.toNatClampNeg) (TA p0.toNatClampNeg) := hki.2.1 p0.toNatClampNeg hi6 _ hcu7.1
      obtain ⟨lk, ⟨i2, i3⟩, ⟨i4, i5⟩, ⟨i6, i7⟩, i8, ⟨i9, i11⟩, i10, hrt⟩ := htn9.1
      have hid9 := htn9.2.1
      have hch9 := htn9.2.2
      unfold KcI at hch9
      refine px_get S k_Txp hT hw 4 0 18 (v := .int ((TF p0.toNatClampNeg) 18)) rfl rfl rfl (by decide) m6_139 d_Ker_isRunning_15 ?_
      refine lv_bipush (v := (-2)) S.x S.b d_Ker_isRunning_18 (by decide) ?_
      refine lv_icmp_ne (tgt := 27) S.x S.b d_Ker_isRunning_20 (by decide) (fun c10 => ?_) (fun c10 => ?_)
      · have nc10 : ¬ ((TF p0.toNatClampNeg) 18).toInt = (-2 : Int) := mt (i_eq (x := ((TF p0.toNatClampNeg) 18)) (y := (-2))).mpr c10
        refine lv_iconst (v := 0) S.x S.b d_Ker_isRunning_27 (by decide) ?_
        have hw : pw D A s.heap _ _ [wd_Ker cs hk kr (fun _ => none) kf ka (gKe pq pz tq rq), fm 13 (fRw cs rq RR RM RW RF RA RC), fm 8 (fPp cs pq PV), fm 13 (fTx cs tq TR TO TF TA)] := ftx_back (pr := [wd_Ker cs hk kr (fun _ => none) kf ka (gKe pq pz tq rq), fm 13 (fRw cs rq RR RM RW RF RA RC), fm 8 (fPp cs pq PV)]) hw hi6 hcu7.1 hto8
        have hw : pw D A s.heap _ _ [wd_Ker cs hk kr (fun _ => none) kf ka (gKe pq pz tq rq), fm 13 (fTx cs tq TR TO TF TA), fm 13 (fRw cs rq RR RM RW RF RA RC), fm 8 (fPp cs pq PV)] := hw.sub [0, 3, 1, 2] rfl rfl
        exact px_iret (v := 0) S hr rfl hlk hAe hw (Nat.le_of_ble_eq_true rfl) (Nat.le_of_ble_eq_true rfl) (⟨rfl, (show (0 : Int32) = 0 ∨ (0 : Int32) = 1 from by first | exact Or.inl rfl | exact Or.inr rfl | exact z_or (by omega)), (show NnP pz p0 (0 : Int32) from (fun h9 => absurd h9 (by decide)))⟩) d_Ker_isRunning_28
      · have nc10 : ((TF p0.toNatClampNeg) 18).toInt = (-2 : Int) := (i_eq (x := ((TF p0.toNatClampNeg) 18)) (y := (-2))).mp c10
        refine lv_iconst (v := 1) S.x S.b d_Ker_isRunning_23 (by decide) ?_
        refine lv_goto (tgt := 28) S.x S.b d_Ker_isRunning_24 (by decide) ?_
        have hw : pw D A s.heap _ _ [wd_Ker cs hk kr (fun _ => none) kf ka (gKe pq pz tq rq), fm 13 (fRw cs rq RR RM RW RF RA RC), fm 8 (fPp cs pq PV), fm 13 (fTx cs tq TR TO TF TA)] := ftx_back (pr := [wd_Ker cs hk kr (fun _ => none) kf ka (gKe pq pz tq rq), fm 13 (fRw cs rq RR RM RW RF RA RC), fm 8 (fPp cs pq PV)]) hw hi6 hcu7.1 hto8
        have hw : pw D A s.heap _ _ [wd_Ker cs hk kr (fun _ => none) kf ka (gKe pq pz tq rq), fm 13 (fTx cs tq TR TO TF TA), fm 13 (fRw cs rq RR RM RW RF RA RC), fm 8 (fPp cs pq PV)] := hw.sub [0, 3, 1, 2] rfl rfl
        exact px_iret (v := 1) S hr rfl hlk hAe hw (Nat.le_of_ble_eq_true rfl) (Nat.le_of_ble_eq_true rfl) (⟨rfl, (show (1 : Int32) = 0 ∨ (1 : Int32) = 1 from by first | exact Or.inl rfl | exact Or.inr rfl | exact z_or (by omega)), (show NnP pz p0 (1 : Int32) from (fun _ => ⟨_, hr6⟩))⟩) d_Ker_isRunning_28
    ·
      cases (hr6.symm.trans e9)
      obtain ⟨j12, hp12, hj12, hjq12, hto12⟩ := hcu7.2
      have hw : pw D A s.heap _ _ [wd_Ker cs hk kr (fun _ => none) kf ka (gKe pq pz tq rq), fm 13 (fTx cs tq TR TO TF TA), fm 8 (fPp cs pq PV), fm 13 (fRw cs rq RR RM RW RF RA RC)] := hw.sub [0, 1, 3, 2] rfl rfl
      have hw : pw D A s.heap _ _ [wd_Ker cs hk kr (fun _ => none) kf ka (gKe pq pz tq rq), fm 13 (fTx cs tq TR TO TF TA), fm 8 (fPp cs pq PV), fo 13 (fRw cs rq RR RM RW RF RA RC) p0.toNatClampNeg, wd_Raw cs q3 (RR p0.toNatClampNeg) (fun k => if k = 2 then (RM p0.toNatClampNeg) else if k = 4 then (some ((PV j12).r 1)) else none) (RF p0.toNatClampNeg) (RA p0.toNatClampNeg) (fun _ _ => none), nA cs (RM p0.toNatClampNeg) 36864 (RC p0.toNatClampNeg)] := frw_out (pr := [wd_Ker cs hk kr (fun _ => none) kf ka (gKe pq pz tq rq), fm 13 (fTx cs tq TR TO TF TA), fm 8 (fPp cs pq PV)]) hw hi6 hcu7.1 hto12
      have hng13 := ndS_ge 13 RM p0.toNatClampNeg hi6
      have hrn13 : RwN p0.toNatClampNeg (RF p0.toNatClampNeg) := hki.2.2.1 p0.toNatClampNeg hi6 _ hcu7.1
      have hro13 := hrn13.1
      unfold RwO at hro13
      have hid13 := hrn13.2.1
      have hch13 := hrn13.2.2
      unfold KcI at hch13
      refine px_get S k_Raw hT hw 4 0 11 (v := .int ((RF p0.toNatClampNeg) 11)) rfl rfl rfl (by decide) m6_139 d_Ker_isRunning_15 ?_
      refine lv_bipush (v := (-2)) S.x S.b d_Ker_isRunning_18 (by decide) ?_
      refine lv_icmp_ne (tgt := 27) S.x S.b d_Ker_isRunning_20 (by decide) (fun c14 => ?_) (fun c14 => ?_)
      · have nc14 : ¬ ((RF p0.toNatClampNeg) 11).toInt = (-2 : Int) := mt (i_eq (x := ((RF p0.toNatClampNeg) 11)) (y := (-2))).mpr c14
        refine lv_iconst (v := 0) S.x S.b d_Ker_isRunning_27 (by decide) ?_
        have hw : pw D A s.heap _ _ [wd_Ker cs hk kr (fun _ => none) kf ka (gKe pq pz tq rq), fm 13 (fTx cs tq TR TO TF TA), fm 8 (fPp cs pq PV), fm 13 (fRw cs rq RR RM RW RF RA RC)] := frw_back (pr := [wd_Ker cs hk kr (fun _ => none) kf ka (gKe pq pz tq rq), fm 13 (fTx cs tq TR TO TF TA), fm 8 (fPp cs pq PV)]) hw hi6 hcu7.1 hto12
        have hw : pw D A s.heap _ _ [wd_Ker cs hk kr (fun _ => none) kf ka (gKe pq pz tq rq), fm 13 (fTx cs tq TR TO TF TA), fm 13 (fRw cs rq RR RM RW RF RA RC), fm 8 (fPp cs pq PV)] := hw.sub [0, 1, 3, 2] rfl rfl
        exact px_iret (v := 0) S hr rfl hlk hAe hw (Nat.le_of_ble_eq_true rfl) (Nat.le_of_ble_eq_true rfl) (⟨rfl, (show (0 : Int32) = 0 ∨ (0 : Int32) = 1 from by first | exact Or.inl rfl | exact Or.inr rfl | exact z_or (by omega)), (show NnP pz p0 (0 : Int32) from (fun h9 => absurd h9 (by decide)))⟩) d_Ker_isRunning_28
      · have nc14 : ((RF p0.toNatClampNeg) 11).toInt = (-2 : Int) := (i_eq (x := ((RF p0.toNatClampNeg) 11)) (y := (-2))).mp c14
        refine lv_iconst (v := 1) S.x S.b d_Ker_isRunning_23 (by decide) ?_
        refine lv_goto (tgt := 28) S.x S.b d_Ker_isRunning_24 (by decide) ?_
        have hw : pw D A s.heap _ _ [wd_Ker cs hk kr (fun _ => none) kf ka (gKe pq pz tq rq), fm 13 (fTx cs tq TR TO TF TA), fm 8 (fPp cs pq PV), fm 13 (fRw cs rq RR RM RW RF RA RC)] := frw_back (pr := [wd_Ker cs hk kr (fun _ => none) kf ka (gKe pq pz tq rq), fm 13 (fTx cs tq TR TO TF TA), fm 8 (fPp cs pq PV)]) hw hi6 hcu7.1 hto12
        have hw : pw D A s.heap _ _ [wd_Ker cs hk kr (fun _ => none) kf ka (gKe pq pz tq rq), fm 13 (fTx cs tq TR TO TF TA), fm 13 (fRw cs rq RR RM RW RF RA RC), fm 8 (fPp cs pq PV)] := hw.sub [0, 1, 3, 2] rfl rfl
        exact px_iret (v := 1) S hr rfl hlk hAe hw (Nat.le_of_ble_eq_true rfl) (Nat.le_of_ble_eq_true rfl) (⟨rfl, (show (1 : Int32) = 0 ∨ (1 : Int32) = 1 from by first | exact Or.inl rfl | exact Or.inr rfl | exact z_or (by omega)), (show NnP pz p0 (1 : Int32) from (fun _ => ⟨_, hr6⟩))⟩) d_Ker_isRunning_28
abbrev b_Ker_partner : ByteArray := prog_4_method_7_code
def y_Ker_partner : MethodName := ⟨"HomeSystem$Kernel", "partner", "(LHomeSystem$AnyProcess;)I"⟩
theorem d_Ker_partner_0 : decode b_Ker_partner 0 = .ok (.aload_n 1, 1) := by decide +kernel
theorem d_Ker_partner_1 : decode b_Ker_partner 1 = .ok (.getfield 111, 3) := by decide +kernel
theorem d_Ker_partner_4 : decode b_Ker_partner 4 = .ok (.istore_n 2, 1) := by decide +kernel
theorem d_Ker_partner_5 : decode b_Ker_partner 5 = .ok (.iload_n 2, 1) := by decide +kernel
theorem d_Ker_partner_6 : decode b_Ker_partner 6 = .ok (.ifCond .ne 23, 3) := by decide +kernel
theorem d_Ker_partner_9 : decode b_Ker_partner 9 = .ok (.aload_n 1, 1) := by decide +kernel
theorem d_Ker_partner_10 : decode b_Ker_partner 10 = .ok (.getfield 101, 3) := by decide +kernel
theorem d_Ker_partner_13 : decode b_Ker_partner 13 = .ok (.ifCond .ne 7, 3) := by decide +kernel
theorem d_Ker_partner_16 : decode b_Ker_partner 16 = .ok (.iconst (-1), 1) := by decide +kernel
theorem d_Ker_partner_17 : decode b_Ker_partner 17 = .ok (.goto 11, 3) := by decide +kernel
theorem d_Ker_partner_20 : decode b_Ker_partner 20 = .ok (.aload_n 1, 1) := by decide +kernel
theorem d_Ker_partner_21 : decode b_Ker_partner 21 = .ok (.getfield 101, 3) := by decide +kernel
theorem d_Ker_partner_24 : decode b_Ker_partner 24 = .ok (.iconst 1, 1) := by decide +kernel
theorem d_Ker_partner_25 : decode b_Ker_partner 25 = .ok (.isub, 1) := by decide +kernel
theorem d_Ker_partner_26 : decode b_Ker_partner 26 = .ok (.iconst 3, 1) := by decide +kernel
theorem d_Ker_partner_27 : decode b_Ker_partner 27 = .ok (.idiv, 1) := by decide +kernel
theorem d_Ker_partner_28 : decode b_Ker_partner 28 = .ok (.ireturn, 1) := by decide +kernel
theorem d_Ker_partner_29 : decode b_Ker_partner 29 = .ok (.iload_n 2, 1) := by decide +kernel
theorem d_Ker_partner_30 : decode b_Ker_partner 30 = .ok (.iconst 1, 1) := by decide +kernel
theorem d_Ker_partner_31 : decode b_Ker_partner 31 = .ok (.if_icmp .lt 22, 3) := by decide +kernel
theorem d_Ker_partner_34 : decode b_Ker_partner 34 = .ok (.iload_n 2, 1) := by decide +kernel
theorem d_Ker_partner_35 : decode b_Ker_partner 35 = .ok (.aload_n 1, 1) := by decide +kernel
theorem d_Ker_partner_36 : decode b_Ker_partner 36 = .ok (.getfield 142, 3) := by decide +kernel
theorem d_Ker_partner_39 : decode b_Ker_partner 39 = .ok (.if_icmp .gt 14, 3) := by decide +kernel
theorem d_Ker_partner_42 : decode b_Ker_partner 42 = .ok (.iconst 3, 1) := by decide +kernel
theorem d_Ker_partner_43 : decode b_Ker_partner 43 = .ok (.aload_n 1, 1) := by decide +kernel
theorem d_Ker_partner_44 : decode b_Ker_partner 44 = .ok (.getfield 101, 3) := by decide +kernel
theorem d_Ker_partner_47 : decode b_Ker_partner 47 = .ok (.imul, 1) := by decide +kernel
theorem d_Ker_partner_48 : decode b_Ker_partner 48 = .ok (.iload_n 2, 1) := by decide +kernel
theorem d_Ker_partner_49 : decode b_Ker_partner 49 = .ok (.iadd, 1) := by decide +kernel
theorem d_Ker_partner_50 : decode b_Ker_partner 50 = .ok (.goto 4, 3) := by decide +kernel
theorem d_Ker_partner_53 : decode b_Ker_partner 53 = .ok (.iconst (-1), 1) := by decide +kernel
theorem d_Ker_partner_54 : decode b_Ker_partner 54 = .ok (.ireturn, 1) := by decide +kernel
theorem q_Ker_partner : px_y y_Ker_partner 1 := by unfold px_y; decide +kernel
set_option maxHeartbeats 4000000 in
set_option maxRecDepth 100000 in
theorem c_k_partner_T (l : Launch) (D : va_G) (cs : Nat → ClassId) (hk : Nat) (kr : Nat → Nat) (pq : Nat → Option Nat) (pz : Nat → Option Nat) (tq : Nat → Option Nat) (rq : Nat → Option Nat) (kf : Nat → Int32) (ka : Nat → Nat → Int32) (TR : Nat → Nat → Nat) (TO : Nat → Option Nat) (TF : Nat → Nat → Int32) (TA : Nat → Nat → Nat → Int32) (RR : Nat → Nat → Nat) (RM : Nat → Option Nat) (RW : Nat → Option Nat) (RF : Nat → Nat → Int32) (RA : Nat → Nat → Nat → Int32) (RC : Nat → Nat → Int32) (PV : Nat → Pvs) (ip hx : Nat) (hki : KnI pq PV pz tq rq TO TF TA RW RF) (hip : ip < 13) (hcu : CuT pq PV tq TO ip hx) : MetI l y_Ker_partner b_Ker_partner 3 (.int) D cs 0 0 (0) (0) [.ref hk, .ref hx] [wd_Ker cs hk kr (fun _ => none) kf ka (gKe pq pz tq rq), fm 13 (fTx cs tq TR TO TF TA), fm 13 (fRw cs rq RR RM RW RF RA RC), fm 8 (fPp cs pq PV)] (fun _ => True) (fun v ps => (ps = [wd_Ker cs hk kr (fun _ => none) kf ka (gKe pq pz tq rq), fm 13 (fTx cs tq TR TO TF TA), fm 13 (fRw cs rq RR RM RW RF RA RC), fm 8 (fPp cs pq PV)]) ∧ (-1 ≤ v.toInt) ∧ (v.toInt ≤ 12)) := by
  refine px_enter (by decide) (Nat.le_of_ble_eq_true rfl) ?_
  intro p e s m below meth c A ls hAe S hr hlk hnm hA hT hX hw hl
  have hl : lv_has ls 3 [(0, .ref hk), (1, .ref hx)] := hl
  have cstm1 : ((-1) : Int32).toInt = (-1) := rfl
  have cst1 : (1 : Int32).toInt = 1 := rfl
  have cst3 : (3 : Int32).toInt = 3 := rfl
  refine lv_aload_n S.x S.b d_Ker_partner_0 rfl (lv_at hl 1 rfl) ?_
  obtain ⟨j1, hp1, hj1, hjq1, hto1, hf01⟩ := hcu.2
  have hw : pw D A s.heap _ _ [wd_Ker cs hk kr (fun _ => none) kf ka (gKe pq pz tq rq), fm 13 (fRw cs rq RR RM RW RF RA RC), fm 8 (fPp cs pq PV), fm 13 (fTx cs tq TR TO TF TA)] := hw.sub [0, 2, 3, 1] rfl rfl
  have hw : pw D A s.heap _ _ [wd_Ker cs hk kr (fun _ => none) kf ka (gKe pq pz tq rq), fm 13 (fRw cs rq RR RM RW RF RA RC), fm 8 (fPp cs pq PV), fo 13 (fTx cs tq TR TO TF TA) ip, wd_Txp cs hx (TR ip) (fun k => if k = 3 then (some hp1) else none) (TF ip) (TA ip) (fun _ _ => none)] := ftx_out (pr := [wd_Ker cs hk kr (fun _ => none) kf ka (gKe pq pz tq rq), fm 13 (fRw cs rq RR RM RW RF RA RC), fm 8 (fPp cs pq PV)]) hw hip hcu.1 hto1
  have htn2 : TxN ip (TF ip) (TA ip) := hki.2.1 ip hip _ hcu.1
  obtain ⟨lk, ⟨i2, i3⟩, ⟨i4, i5⟩, ⟨i6, i7⟩, i8, ⟨i9, i11⟩, i10, hrt⟩ := htn2.1
  have hid2 := htn2.2.1
  have hch2 := htn2.2.2
  unfold KcI at hch2
  refine px_get S k_Txp hT hw 4 0 23 (v := .int ((TF ip) 23)) rfl rfl rfl (by decide) m6_161 d_Ker_partner_1 ?_
  refine lv_istore_n (lv' := [(2, .int ((TF ip) 23)), (0, .ref hk), (1, .ref hx)]) S.x S.b d_Ker_partner_4 rfl hl (by decide) rfl (fun ls hl => ?_)
  refine lv_iload_n S.x S.b d_Ker_partner_5 rfl (lv_at hl 0 rfl) ?_
  refine lv_if_ne (tgt := 29) S.x S.b d_Ker_partner_6 (by decide) (fun c3 => ?_) (fun c3 => ?_)
  · have nc3 : ¬ ((TF ip) 23).toInt = (0 : Int) := mt (i_eq (x := ((TF ip) 23)) (y := 0)).mpr c3
    refine lv_iload_n S.x S.b d_Ker_partner_29 rfl (lv_at hl 0 rfl) ?_
    refine lv_iconst (v := 1) S.x S.b d_Ker_partner_30 (by decide) ?_
    refine lv_icmp_lt (tgt := 53) S.x S.b d_Ker_partner_31 (by decide) (fun c5 => ?_) (fun c5 => ?_)
    · have nc5 : ((TF ip) 23).toInt < (1 : Int) := (i_lt (x := ((TF ip) 23)) (y := 1)).mp c5
      refine lv_iconst (v := (-1)) S.x S.b d_Ker_partner_53 (by decide) ?_
      have hw : pw D A s.heap _ _ [wd_Ker cs hk kr (fun _ => none) kf ka (gKe pq pz tq rq), fm 13 (fRw cs rq RR RM RW RF RA RC), fm 8 (fPp cs pq PV), fm 13 (fTx cs tq TR TO TF TA)] := ftx_back (pr := [wd_Ker cs hk kr (fun _ => none) kf ka (gKe pq pz tq rq), fm 13 (fRw cs rq RR RM RW RF RA RC), fm 8 (fPp cs pq PV)]) hw hip hcu.1 hto1
      have hw : pw D A s.heap _ _ [wd_Ker cs hk kr (fun _ => none) kf ka (gKe pq pz tq rq), fm 13 (fTx cs tq TR TO TF TA), fm 13 (fRw cs rq RR RM RW RF RA RC), fm 8 (fPp cs pq PV)] := hw.sub [0, 3, 1, 2] rfl rfl
      exact px_iret (v := (-1)) S hr rfl hlk hAe hw (Nat.le_of_ble_eq_true rfl) (Nat.le_of_ble_eq_true rfl) (⟨rfl, (show -1 ≤ (-1 : Int) from by first | exact oz_268d846349 | omega), (show (-1 : Int) ≤ 12 from by first | exact oz_c79f30f34c | omega)⟩) d_Ker_partner_54
    · have nc5 : ¬ ((TF ip) 23).toInt < (1 : Int) := mt (i_lt (x := ((TF ip) 23)) (y := 1)).mpr c5
      refine lv_iload_n S.x S.b d_Ker_partner_34 rfl (lv_at hl 0 rfl) ?_
      refine lv_aload_n S.x S.b d_Ker_partner_35 rfl (lv_at hl 2 rfl) ?_
      refine px_get S k_Txp hT hw 4 0 20 (v := .int ((TF ip) 20)) rfl rfl rfl (by decide) m6_149 d_Ker_partner_36 ?_
      refine lv_icmp_gt (tgt := 53) S.x S.b d_Ker_partner_39 (by decide) (fun c7 => ?_) (fun c7 => ?_)
      · have nc7 : ((TF ip) 20).toInt < ((TF ip) 23).toInt := (i_lt (x := ((TF ip) 20)) (y := ((TF ip) 23))).mp c7
        refine lv_iconst (v := (-1)) S.x S.b d_Ker_partner_53 (by decide) ?_
        have hw : pw D A s.heap _ _ [wd_Ker cs hk kr (fun _ => none) kf ka (gKe pq pz tq rq), fm 13 (fRw cs rq RR RM RW RF RA RC), fm 8 (fPp cs pq PV), fm 13 (fTx cs tq TR TO TF TA)] := ftx_back (pr := [wd_Ker cs hk kr (fun _ => none) kf ka (gKe pq pz tq rq), fm 13 (fRw cs rq RR RM RW RF RA RC), fm 8 (fPp cs pq PV)]) hw hip hcu.1 hto1
        have hw : pw D A s.heap _ _ [wd_Ker cs hk kr (fun _ => none) kf ka (gKe pq pz tq rq), fm 13 (fTx cs tq TR TO TF TA), fm 13 (fRw cs rq RR RM RW RF RA RC), fm 8 (fPp cs pq PV)] := hw.sub [0, 3, 1, 2] rfl rfl
        exact px_iret (v := (-1)) S hr rfl hlk hAe hw (Nat.le_of_ble_eq_true rfl) (Nat.le_of_ble_eq_true rfl) (⟨rfl, (show -1 ≤ (-1 : Int) from by first | exact oz_268d846349 | omega), (show (-1 : Int) ≤ 12 from by first | exact oz_c79f30f34c | omega)⟩) d_Ker_partner_54
      · have nc7 : ¬ ((TF ip) 20).toInt < ((TF ip) 23).toInt := mt (i_lt (x := ((TF ip) 20)) (y := ((TF ip) 23))).mpr c7
        refine lv_iconst (v := 3) S.x S.b d_Ker_partner_42 (by decide) ?_
        refine lv_aload_n S.x S.b d_Ker_partner_43 rfl (lv_at hl 2 rfl) ?_
        refine px_get S k_Txp hT hw 4 0 15 (v := .int ((TF ip) 15)) rfl rfl rfl (by decide) m6_133 d_Ker_partner_44 ?_
        refine lv_imul S.x S.b d_Ker_partner_47 ?_
        have lr9 := Int32.le_toInt ((TF ip) 15)
        have ur9 := Int32.toInt_lt ((TF ip) 15)
        refine lv_topi (fun z10 ez10 => ?_)
        have lz10 := Int32.le_toInt z10
        have uz10 := Int32.toInt_lt z10
        have tz10 : -2147483648 ≤ 3 * ((TF ip) 15).toInt → 3 * ((TF ip) 15).toInt < 2147483648 → z10.toInt = 3 * ((TF ip) 15).toInt := by rw [ez10]; exact i_mulc 3 ((TF ip) 15) (by decide)
        try replace tz10 : z10.toInt = 3 * ((TF ip) 15).toInt := by omega
        refine lv_iload_n S.x S.b d_Ker_partner_48 rfl (lv_at hl 0 rfl) ?_
        refine lv_iadd S.x S.b d_Ker_partner_49 ?_
        have lr11 := Int32.le_toInt ((TF ip) 23)
        have ur11 := Int32.toInt_lt ((TF ip) 23)
        refine lv_topi (fun z12 ez12 => ?_)
        have tz12 : z12.toInt = (z10.toInt + ((TF ip) 23).toInt + 2147483648) % 4294967296 - 2147483648 := by rw [ez12]; exact i_add z10 ((TF ip) 23)
        have lz12 := Int32.le_toInt z12
        have uz12 := Int32.toInt_lt z12
        try replace tz12 : z12.toInt = z10.toInt + ((TF ip) 23).toInt := by omega
        refine lv_goto (tgt := 54) S.x S.b d_Ker_partner_50 (by decide) ?_
        have hw : pw D A s.heap _ _ [wd_Ker cs hk kr (fun _ => none) kf ka (gKe pq pz tq rq), fm 13 (fRw cs rq RR RM RW RF RA RC), fm 8 (fPp cs pq PV), fm 13 (fTx cs tq TR TO TF TA)] := ftx_back (pr := [wd_Ker cs hk kr (fun _ => none) kf ka (gKe pq pz tq rq), fm 13 (fRw cs rq RR RM RW RF RA RC), fm 8 (fPp cs pq PV)]) hw hip hcu.1 hto1
        have hw : pw D A s.heap _ _ [wd_Ker cs hk kr (fun _ => none) kf ka (gKe pq pz tq rq), fm 13 (fTx cs tq TR TO TF TA), fm 13 (fRw cs rq RR RM RW RF RA RC), fm 8 (fPp cs pq PV)] := hw.sub [0, 3, 1, 2] rfl rfl
        exact px_iret (v := z12) S hr rfl hlk hAe hw (Nat.le_of_ble_eq_true rfl) (Nat.le_of_ble_eq_true rfl) (⟨rfl, (show -1 ≤ z12.toInt from by first | exact oz_4bc36f64a0 tz12 nc5 tz10 hid2 | omega), (show z12.toInt ≤ 12 from by omega)⟩) d_Ker_partner_54
  · have nc3 : ((TF ip) 23).toInt = (0 : Int) := (i_eq (x := ((TF ip) 23)) (y := 0)).mp c3
    refine lv_aload_n S.x S.b d_Ker_partner_9 rfl (lv_at hl 2 rfl) ?_
    refine px_get S k_Txp hT hw 4 0 15 (v := .int ((TF ip) 15)) rfl rfl rfl (by decide) m6_133 d_Ker_partner_10 ?_
    refine lv_if_ne (tgt := 20) S.x S.b d_Ker_partner_13 (by decide) (fun c13 => ?_) (fun c13 => ?_)
    · have nc13 : ¬ ((TF ip) 15).toInt = (0 : Int) := mt (i_eq (x := ((TF ip) 15)) (y := 0)).mpr c13
      refine lv_aload_n S.x S.b d_Ker_partner_20 rfl (lv_at hl 2 rfl) ?_
      refine px_get S k_Txp hT hw 4 0 15 (v := .int ((TF ip) 15)) rfl rfl rfl (by decide) m6_133 d_Ker_partner_21 ?_
      refine lv_iconst (v := 1) S.x S.b d_Ker_partner_24 (by decide) ?_
      refine lv_isub S.x S.b d_Ker_partner_25 ?_
      have lr15 := Int32.le_toInt ((TF ip) 15)
      have ur15 := Int32.toInt_lt ((TF ip) 15)
      refine lv_topi (fun z16 ez16 => ?_)
      have tz16 : z16.toInt = (((TF ip) 15).toInt - (1 : Int) + 2147483648) % 4294967296 - 2147483648 := by rw [ez16]; exact i_sub ((TF ip) 15) 1
      have lz16 := Int32.le_toInt z16
      have uz16 := Int32.toInt_lt z16
      try replace tz16 : z16.toInt = ((TF ip) 15).toInt - (1 : Int) := by omega
      refine lv_iconst (v := 3) S.x S.b d_Ker_partner_26 (by decide) ?_
      refine lv_idiv S.x S.b d_Ker_partner_27 (by decide) ?_
      refine lv_topi (fun z17 ez17 => ?_)
      have lz17 := Int32.le_toInt z17
      have uz17 := Int32.toInt_lt z17
      have tz17 : 0 ≤ z16.toInt → z17.toInt = z16.toInt / 3 := (by intro h9; rw [ez17]; exact i_idiv9 h9 (y := 3) (d := 3) (by decide) (by decide))
      try replace tz17 := tz17 (by omega)
      have hw : pw D A s.heap _ _ [wd_Ker cs hk kr (fun _ => none) kf ka (gKe pq pz tq rq), fm 13 (fRw cs rq RR RM RW RF RA RC), fm 8 (fPp cs pq PV), fm 13 (fTx cs tq TR TO TF TA)] := ftx_back (pr := [wd_Ker cs hk kr (fun _ => none) kf ka (gKe pq pz tq rq), fm 13 (fRw cs rq RR RM RW RF RA RC), fm 8 (fPp cs pq PV)]) hw hip hcu.1 hto1
      have hw : pw D A s.heap _ _ [wd_Ker cs hk kr (fun _ => none) kf ka (gKe pq pz tq rq), fm 13 (fTx cs tq TR TO TF TA), fm 13 (fRw cs rq RR RM RW RF RA RC), fm 8 (fPp cs pq PV)] := hw.sub [0, 3, 1, 2] rfl rfl
      exact px_iret (v := z17) S hr rfl hlk hAe hw (Nat.le_of_ble_eq_true rfl) (Nat.le_of_ble_eq_true rfl) (⟨rfl, (show -1 ≤ z17.toInt from by omega), (show z17.toInt ≤ 12 from by omega)⟩) d_Ker_partner_28
    · have nc13 : ((TF ip) 15).toInt = (0 : Int) := (i_eq (x := ((TF ip) 15)) (y := 0)).mp c13
      refine lv_iconst (v := (-1)) S.x S.b d_Ker_partner_16 (by decide) ?_
      refine lv_goto (tgt := 28) S.x S.b d_Ker_partner_17 (by decide) ?_
      have hw : pw D A s.heap _ _ [wd_Ker cs hk kr (fun _ => none) kf ka (gKe pq pz tq rq), fm 13 (fRw cs rq RR RM RW RF RA RC), fm 8 (fPp cs pq PV), fm 13 (fTx cs tq TR TO TF TA)] := ftx_back (pr := [wd_Ker cs hk kr (fun _ => none) kf ka (gKe pq pz tq rq), fm 13 (fRw cs rq RR RM RW RF RA RC), fm 8 (fPp cs pq PV)]) hw hip hcu.1 hto1
      have hw : pw D A s.heap _ _ [wd_Ker cs hk kr (fun _ => none) kf ka (gKe pq pz tq rq), fm 13 (fTx cs tq TR TO TF TA), fm 13 (fRw cs rq RR RM RW RF RA RC), fm 8 (fPp cs pq PV)] := hw.sub [0, 3, 1, 2] rfl rfl
      exact px_iret (v := (-1)) S hr rfl hlk hAe hw (Nat.le_of_ble_eq_true rfl) (Nat.le_of_ble_eq_true rfl) (⟨rfl, (show -1 ≤ (-1 : Int) from by first | exact oz_268d846349 | omega), (show (-1 : Int) ≤ 12 from by first | exact oz_c79f30f34c | omega)⟩) d_Ker_partner_28
set_option maxHeartbeats 4000000 in
set_option maxRecDepth 100000 in
theorem c_k_partner_R (l : Launch) (D : va_G) (cs : Nat → ClassId) (hk : Nat) (kr : Nat → Nat) (pq : Nat → Option Nat) (pz : Nat → Option Nat) (tq : Nat → Option Nat) (rq : Nat → Option Nat) (kf : Nat → Int32) (ka : Nat → Nat → Int32) (TR : Nat → Nat → Nat) (TO : Nat → Option Nat) (TF : Nat → Nat → Int32) (TA : Nat → Nat → Nat → Int32) (RR : Nat → Nat → Nat) (RM : Nat → Option Nat) (RW : Nat → Option Nat) (RF : Nat → Nat → Int32) (RA : Nat → Nat → Nat → Int32) (RC : Nat → Nat → Int32) (PV : Nat → Pvs) (ip hx : Nat) (hki : KnI pq PV pz tq rq TO TF TA RW RF) (hip : ip < 13) (hcu : CuR pq PV rq RW ip hx) : MetI l y_Ker_partner b_Ker_partner 3 (.int) D cs 0 0 (0) (0) [.ref hk, .ref hx] [wd_Ker cs hk kr (fun _ => none) kf ka (gKe pq pz tq rq), fm 13 (fTx cs tq TR TO TF TA), fm 13 (fRw cs rq RR RM RW RF RA RC), fm 8 (fPp cs pq PV)] (fun _ => True) (fun v ps => (ps = [wd_Ker cs hk kr (fun _ => none) kf ka (gKe pq pz tq rq), fm 13 (fTx cs tq TR TO TF TA), fm 13 (fRw cs rq RR RM RW RF RA RC), fm 8 (fPp cs pq PV)]) ∧ (-1 ≤ v.toInt) ∧ (v.toInt ≤ 12)) := by
  refine px_enter (by decide) (Nat.le_of_ble_eq_true rfl) ?_
  intro p e s m below meth c A ls hAe S hr hlk hnm hA hT hX hw hl
  have hl : lv_has ls 3 [(0, .ref hk), (1, .ref hx)] := hl
  have cstm1 : ((-1) : Int32).toInt = (-1) := rfl
  have cst1 : (1 : Int32).toInt = 1 := rfl
  have cst3 : (3 : Int32).toInt = 3 := rfl
  refine lv_aload_n S.x S.b d_Ker_partner_0 rfl (lv_at hl 1 rfl) ?_
  obtain ⟨j1, hp1, hj1, hjq1, hto1⟩ := hcu.2
  have hw : pw D A s.heap _ _ [wd_Ker cs hk kr (fun _ => none) kf ka (gKe pq pz tq rq), fm 13 (fTx cs tq TR TO TF TA), fm 8 (fPp cs pq PV), fm 13 (fRw cs rq RR RM RW RF RA RC)] := hw.sub [0, 1, 3, 2] rfl rfl
  have hw : pw D A s.heap _ _ [wd_Ker cs hk kr (fun _ => none) kf ka (gKe pq pz tq rq), fm 13 (fTx cs tq TR TO TF TA), fm 8 (fPp cs pq PV), fo 13 (fRw cs rq RR RM RW RF RA RC) ip, wd_Raw cs hx (RR ip) (fun k => if k = 2 then (RM ip) else if k = 4 then (some ((PV j1).r 1)) else none) (RF ip) (RA ip) (fun _ _ => none), nA cs (RM ip) 36864 (RC ip)] := frw_out (pr := [wd_Ker cs hk kr (fun _ => none) kf ka (gKe pq pz tq rq), fm 13 (fTx cs tq TR TO TF TA), fm 8 (fPp cs pq PV)]) hw hip hcu.1 hto1
  have hng2 := ndS_ge 13 RM ip hip
  have hrn2 : RwN ip (RF ip) := hki.2.2.1 ip hip _ hcu.1
  have hro2 := hrn2.1
  unfold RwO at hro2
  have hid2 := hrn2.2.1
  have hch2 := hrn2.2.2
  unfold KcI at hch2
  refine px_get S k_Raw hT hw 4 0 16 (v := .int ((RF ip) 16)) rfl rfl rfl (by decide) m6_161 d_Ker_partner_1 ?_
  refine lv_istore_n (lv' := [(2, .int ((RF ip) 16)), (0, .ref hk), (1, .ref hx)]) S.x S.b d_Ker_partner_4 rfl hl (by decide) rfl (fun ls hl => ?_)
  refine lv_iload_n S.x S.b d_Ker_partner_5 rfl (lv_at hl 0 rfl) ?_
  refine lv_if_ne (tgt := 29) S.x S.b d_Ker_partner_6 (by decide) (fun c3 => ?_) (fun c3 => ?_)
  · have nc3 : ¬ ((RF ip) 16).toInt = (0 : Int) := mt (i_eq (x := ((RF ip) 16)) (y := 0)).mpr c3
    refine lv_iload_n S.x S.b d_Ker_partner_29 rfl (lv_at hl 0 rfl) ?_
    refine lv_iconst (v := 1) S.x S.b d_Ker_partner_30 (by decide) ?_
    refine lv_icmp_lt (tgt := 53) S.x S.b d_Ker_partner_31 (by decide) (fun c5 => ?_) (fun c5 => ?_)
    · have nc5 : ((RF ip) 16).toInt < (1 : Int) := (i_lt (x := ((RF ip) 16)) (y := 1)).mp c5
      refine lv_iconst (v := (-1)) S.x S.b d_Ker_partner_53 (by decide) ?_
      have hw : pw D A s.heap _ _ [wd_Ker cs hk kr (fun _ => none) kf ka (gKe pq pz tq rq), fm 13 (fTx cs tq TR TO TF TA), fm 8 (fPp cs pq PV), fm 13 (fRw cs rq RR RM RW RF RA RC)] := frw_back (pr := [wd_Ker cs hk kr (fun _ => none) kf ka (gKe pq pz tq rq), fm 13 (fTx cs tq TR TO TF TA), fm 8 (fPp cs pq PV)]) hw hip hcu.1 hto1
      have hw : pw D A s.heap _ _ [wd_Ker cs hk kr (fun _ => none) kf ka (gKe pq pz tq rq), fm 13 (fTx cs tq TR TO TF TA), fm 13 (fRw cs rq RR RM RW RF RA RC), fm 8 (fPp cs pq PV)] := hw.sub [0, 1, 3, 2] rfl rfl
      exact px_iret (v := (-1)) S hr rfl hlk hAe hw (Nat.le_of_ble_eq_true rfl) (Nat.le_of_ble_eq_true rfl) (⟨rfl, (show -1 ≤ (-1 : Int) from by first | exact oz_268d846349 | omega), (show (-1 : Int) ≤ 12 from by first | exact oz_c79f30f34c | omega)⟩) d_Ker_partner_54
    · have nc5 : ¬ ((RF ip) 16).toInt < (1 : Int) := mt (i_lt (x := ((RF ip) 16)) (y := 1)).mpr c5
      refine lv_iload_n S.x S.b d_Ker_partner_34 rfl (lv_at hl 0 rfl) ?_
      refine lv_aload_n S.x S.b d_Ker_partner_35 rfl (lv_at hl 2 rfl) ?_
      refine px_get S k_Raw hT hw 4 0 13 (v := .int ((RF ip) 13)) rfl rfl rfl (by decide) m6_149 d_Ker_partner_36 ?_
      refine lv_icmp_gt (tgt := 53) S.x S.b d_Ker_partner_39 (by decide) (fun c7 => ?_) (fun c7 => ?_)
      · have nc7 : ((RF ip) 13).toInt < ((RF ip) 16).toInt := (i_lt (x := ((RF ip) 13)) (y := ((RF ip) 16))).mp c7
        refine lv_iconst (v := (-1)) S.x S.b d_Ker_partner_53 (by decide) ?_
        have hw : pw D A s.heap _ _ [wd_Ker cs hk kr (fun _ => none) kf ka (gKe pq pz tq rq), fm 13 (fTx cs tq TR TO TF TA), fm 8 (fPp cs pq PV), fm 13 (fRw cs rq RR RM RW RF RA RC)] := frw_back (pr := [wd_Ker cs hk kr (fun _ => none) kf ka (gKe pq pz tq rq), fm 13 (fTx cs tq TR TO TF TA), fm 8 (fPp cs pq PV)]) hw hip hcu.1 hto1
        have hw : pw D A s.heap _ _ [wd_Ker cs hk kr (fun _ => none) kf ka (gKe pq pz tq rq), fm 13 (fTx cs tq TR TO TF TA), fm 13 (fRw cs rq RR RM RW RF RA RC), fm 8 (fPp cs pq PV)] := hw.sub [0, 1, 3, 2] rfl rfl
        exact px_iret (v := (-1)) S hr rfl hlk hAe hw (Nat.le_of_ble_eq_true rfl) (Nat.le_of_ble_eq_true rfl) (⟨rfl, (show -1 ≤ (-1 : Int) from by first | exact oz_268d846349 | omega), (show (-1 : Int) ≤ 12 from by first | exact oz_c79f30f34c | omega)⟩) d_Ker_partner_54
      · have nc7 : ¬ ((RF ip) 13).toInt < ((RF ip) 16).toInt := mt (i_lt (x := ((RF ip) 13)) (y := ((RF ip) 16))).mpr c7
        refine lv_iconst (v := 3) S.x S.b d_Ker_partner_42 (by decide) ?_
        refine lv_aload_n S.x S.b d_Ker_partner_43 rfl (lv_at hl 2 rfl) ?_
        refine px_get S k_Raw hT hw 4 0 8 (v := .int ((RF ip) 8)) rfl rfl rfl (by decide) m6_133 d_Ker_partner_44 ?_
        refine lv_imul S.x S.b d_Ker_partner_47 ?_
        have lr9 := Int32.le_toInt ((RF ip) 8)
        have ur9 := Int32.toInt_lt ((RF ip) 8)
        refine lv_topi (fun z10 ez10 => ?_)
        have lz10 := Int32.le_toInt z10
        have uz10 := Int32.toInt_lt z10
        have tz10 : -2147483648 ≤ 3 * ((RF ip) 8).toInt → 3 * ((RF ip) 8).toInt < 2147483648 → z10.toInt = 3 * ((RF ip) 8).toInt := by rw [ez10]; exact i_mulc 3 ((RF ip) 8) (by decide)
        try replace tz10 : z10.toInt = 3 * ((RF ip) 8).toInt := by omega
        refine lv_iload_n S.x S.b d_Ker_partner_48 rfl (lv_at hl 0 rfl) ?_
        refine lv_iadd S.x S.b d_Ker_partner_49 ?_
        have lr11 := Int32.le_toInt ((RF ip) 16)
        have ur11 := Int32.toInt_lt ((RF ip) 16)
        refine lv_topi (fun z12 ez12 => ?_)
        have tz12 : z12.toInt = (z10.toInt + ((RF ip) 16).toInt + 2147483648) % 4294967296 - 2147483648 := by rw [ez12]; exact i_add z10 ((RF ip) 16)
        have lz12 := Int32.le_toInt z12
        have uz12 := Int32.toInt_lt z12
        try replace tz12 : z12.toInt = z10.toInt + ((RF ip) 16).toInt := by omega
        refine lv_goto (tgt := 54) S.x S.b d_Ker_partner_50 (by decide) ?_
        have hw : pw D A s.heap _ _ [wd_Ker cs hk kr (fun _ => none) kf ka (gKe pq pz tq rq), fm 13 (fTx cs tq TR TO TF TA), fm 8 (fPp cs pq PV), fm 13 (fRw cs rq RR RM RW RF RA RC)] := frw_back (pr := [wd_Ker cs hk kr (fun _ => none) kf ka (gKe pq pz tq rq), fm 13 (fTx cs tq TR TO TF TA), fm 8 (fPp cs pq PV)]) hw hip hcu.1 hto1
        have hw : pw D A s.heap _ _ [wd_Ker cs hk kr (fun _ => none) kf ka (gKe pq pz tq rq), fm 13 (fTx cs tq TR TO TF TA), fm 13 (fRw cs rq RR RM RW RF RA RC), fm 8 (fPp cs pq PV)] := hw.sub [0, 1, 3, 2] rfl rfl
        exact px_iret (v := z12) S hr rfl hlk hAe hw (Nat.le_of_ble_eq_true rfl) (Nat.le_of_ble_eq_true rfl) (⟨rfl, (show -1 ≤ z12.toInt from by first | exact oz_4bc36f64a0 tz12 nc5 tz10 hid2 | omega), (show z12.toInt ≤ 12 from by omega)⟩) d_Ker_partner_54
  · have nc3 : ((RF ip) 16).toInt = (0 : Int) := (i_eq (x := ((RF ip) 16)) (y := 0)).mp c3
    refine lv_aload_n S.x S.b d_Ker_partner_9 rfl (lv_at hl 2 rfl) ?_
    refine px_get S k_Raw hT hw 4 0 8 (v := .int ((RF ip) 8)) rfl rfl rfl (by decide) m6_133 d_Ker_partner_10 ?_
    refine lv_if_ne (tgt := 20) S.x S.b d_Ker_partner_13 (by decide) (fun c13 => ?_) (fun c13 => ?_)
    · have nc13 : ¬ ((RF ip) 8).toInt = (0 : Int) := mt (i_eq (x := ((RF ip) 8)) (y := 0)).mpr c13
      refine lv_aload_n S.x S.b d_Ker_partner_20 rfl (lv_at hl 2 rfl) ?_
      refine px_get S k_Raw hT hw 4 0 8 (v := .int ((RF ip) 8)) rfl rfl rfl (by decide) m6_133 d_Ker_partner_21 ?_
      refine lv_iconst (v := 1) S.x S.b d_Ker_partner_24 (by decide) ?_
      refine lv_isub S.x S.b d_Ker_partner_25 ?_
      have lr15 := Int32.le_toInt ((RF ip) 8)
      have ur15 := Int32.toInt_lt ((RF ip) 8)
      refine lv_topi (fun z16 ez16 => ?_)
      have tz16 : z16.toInt = (((RF ip) 8).toInt - (1 : Int) + 2147483648) % 4294967296 - 2147483648 := by rw [ez16]; exact i_sub ((RF ip) 8) 1
      have lz16 := Int32.le_toInt z16
      have uz16 := Int32.toInt_lt z16
      try replace tz16 : z16.toInt = ((RF ip) 8).toInt - (1 : Int) := by omega
      refine lv_iconst (v := 3) S.x S.b d_Ker_partner_26 (by decide) ?_
      refine lv_idiv S.x S.b d_Ker_partner_27 (by decide) ?_
      refine lv_topi (fun z17 ez17 => ?_)
      have lz17 := Int32.le_toInt z17
      have uz17 := Int32.toInt_lt z17
      have tz17 : 0 ≤ z16.toInt → z17.toInt = z16.toInt / 3 := (by intro h9; rw [ez17]; exact i_idiv9 h9 (y := 3) (d := 3) (by decide) (by decide))
      try replace tz17 := tz17 (by omega)
      have hw : pw D A s.heap _ _ [wd_Ker cs hk kr (fun _ => none) kf ka (gKe pq pz tq rq), fm 13 (fTx cs tq TR TO TF TA), fm 8 (fPp cs pq PV), fm 13 (fRw cs rq RR RM RW RF RA RC)] := frw_back (pr := [wd_Ker cs hk kr (fun _ => none) kf ka (gKe pq pz tq rq), fm 13 (fTx cs tq TR TO TF TA), fm 8 (fPp cs pq PV)]) hw hip hcu.1 hto1
      have hw : pw D A s.heap _ _ [wd_Ker cs hk kr (fun _ => none) kf ka (gKe pq pz tq rq), fm 13 (fTx cs tq TR TO TF TA), fm 13 (fRw cs rq RR RM RW RF RA RC), fm 8 (fPp cs pq PV)] := hw.sub [0, 1, 3, 2] rfl rfl
      exact px_iret (v := z17) S hr rfl hlk hAe hw (Nat.le_of_ble_eq_true rfl) (Nat.le_of_ble_eq_true rfl) (⟨rfl, (show -1 ≤ z17.toInt from by omega), (show z17.toInt ≤ 12 from by omega)⟩) d_Ker_partner_28
    · have nc13 : ((RF ip) 8).toInt = (0 : Int) := (i_eq (x := ((RF ip) 8)) (y := 0)).mp c13
      refine lv_iconst (v := (-1)) S.x S.b d_Ker_partner_16 (by decide) ?_
      refine lv_goto (tgt := 28) S.x S.b d_Ker_partner_17 (by decide) ?_
      have hw : pw D A s.heap _ _ [wd_Ker cs hk kr (fun _ => none) kf ka (gKe pq pz tq rq), fm 13 (fTx cs tq TR TO TF TA), fm 8 (fPp cs pq PV), fm 13 (fRw cs rq RR RM RW RF RA RC)] := frw_back (pr := [wd_Ker cs hk kr (fun _ => none) kf ka (gKe pq pz tq rq), fm 13 (fTx cs tq TR TO TF TA), fm 8 (fPp cs pq PV)]) hw hip hcu.1 hto1
      have hw : pw D A s.heap _ _ [wd_Ker cs hk kr (fun _ => none) kf ka (gKe pq pz tq rq), fm 13 (fTx cs tq TR TO TF TA), fm 13 (fRw cs rq RR RM RW RF RA RC), fm 8 (fPp cs pq PV)] := hw.sub [0, 1, 3, 2] rfl rfl
      exact px_iret (v := (-1)) S hr rfl hlk hAe hw (Nat.le_of_ble_eq_true rfl) (Nat.le_of_ble_eq_true rfl) (⟨rfl, (show -1 ≤ (-1 : Int) from by first | exact oz_268d846349 | omega), (show (-1 : Int) ≤ 12 from by first | exact oz_c79f30f34c | omega)⟩) d_Ker_partner_28
abbrev b_Ker_send : ByteArray := prog_4_method_8_code
def y_Ker_send : MethodName := ⟨"HomeSystem$Kernel", "send", "(LHomeSystem$AnyProcess;II)Z"⟩
theorem d_Ker_send_0 : decode b_Ker_send 0 = .ok (.iload_n 2, 1) := by decide +kernel
theorem d_Ker_send_1 : decode b_Ker_send 1 = .ok (.iconst (-1), 1) := by decide +kernel
theorem d_Ker_send_2 : decode b_Ker_send 2 = .ok (.if_icmp .ne 11, 3) := by decide +kernel
theorem d_Ker_send_5 : decode b_Ker_send 5 = .ok (.aload_n 1, 1) := by decide +kernel
theorem d_Ker_send_6 : decode b_Ker_send 6 = .ok (.iconst 2, 1) := by decide +kernel
theorem d_Ker_send_7 : decode b_Ker_send 7 = .ok (.iconst 0, 1) := by decide +kernel
theorem d_Ker_send_8 : decode b_Ker_send 8 = .ok (.invokevirtual 74, 3) := by decide +kernel
theorem d_Ker_send_11 : decode b_Ker_send 11 = .ok (.iconst 1, 1) := by decide +kernel
theorem d_Ker_send_12 : decode b_Ker_send 12 = .ok (.ireturn, 1) := by decide +kernel
theorem d_Ker_send_13 : decode b_Ker_send 13 = .ok (.aload_n 0, 1) := by decide +kernel
theorem d_Ker_send_14 : decode b_Ker_send 14 = .ok (.iload_n 2, 1) := by decide +kernel
theorem d_Ker_send_15 : decode b_Ker_send 15 = .ok (.invokevirtual 70, 3) := by decide +kernel
theorem d_Ker_send_18 : decode b_Ker_send 18 = .ok (.ifCond .eq 53, 3) := by decide +kernel
theorem d_Ker_send_21 : decode b_Ker_send 21 = .ok (.aload_n 0, 1) := by decide +kernel
theorem d_Ker_send_22 : decode b_Ker_send 22 = .ok (.getfield 45, 3) := by decide +kernel
theorem d_Ker_send_25 : decode b_Ker_send 25 = .ok (.iload_n 3, 1) := by decide +kernel
theorem d_Ker_send_26 : decode b_Ker_send 26 = .ok (.iaload, 1) := by decide +kernel
theorem d_Ker_send_27 : decode b_Ker_send 27 = .ok (.iconst 4, 1) := by decide +kernel
theorem d_Ker_send_28 : decode b_Ker_send 28 = .ok (.if_icmp .ne 5, 3) := by decide +kernel
theorem d_Ker_send_31 : decode b_Ker_send 31 = .ok (.iconst 0, 1) := by decide +kernel
theorem d_Ker_send_32 : decode b_Ker_send 32 = .ok (.ireturn, 1) := by decide +kernel
theorem d_Ker_send_33 : decode b_Ker_send 33 = .ok (.aload_n 0, 1) := by decide +kernel
theorem d_Ker_send_34 : decode b_Ker_send 34 = .ok (.getfield 39, 3) := by decide +kernel
theorem d_Ker_send_37 : decode b_Ker_send 37 = .ok (.iconst 4, 1) := by decide +kernel
theorem d_Ker_send_38 : decode b_Ker_send 38 = .ok (.iload_n 3, 1) := by decide +kernel
theorem d_Ker_send_39 : decode b_Ker_send 39 = .ok (.imul, 1) := by decide +kernel
theorem d_Ker_send_40 : decode b_Ker_send 40 = .ok (.aload_n 0, 1) := by decide +kernel
theorem d_Ker_send_41 : decode b_Ker_send 41 = .ok (.getfield 42, 3) := by decide +kernel
theorem d_Ker_send_44 : decode b_Ker_send 44 = .ok (.iload_n 3, 1) := by decide +kernel
theorem d_Ker_send_45 : decode b_Ker_send 45 = .ok (.iaload, 1) := by decide +kernel
theorem d_Ker_send_46 : decode b_Ker_send 46 = .ok (.aload_n 0, 1) := by decide +kernel
theorem d_Ker_send_47 : decode b_Ker_send 47 = .ok (.getfield 45, 3) := by decide +kernel
theorem d_Ker_send_50 : decode b_Ker_send 50 = .ok (.iload_n 3, 1) := by decide +kernel
theorem d_Ker_send_51 : decode b_Ker_send 51 = .ok (.iaload, 1) := by decide +kernel
theorem d_Ker_send_52 : decode b_Ker_send 52 = .ok (.iadd, 1) := by decide +kernel
theorem d_Ker_send_53 : decode b_Ker_send 53 = .ok (.iconst 4, 1) := by decide +kernel
theorem d_Ker_send_54 : decode b_Ker_send 54 = .ok (.irem, 1) := by decide +kernel
theorem d_Ker_send_55 : decode b_Ker_send 55 = .ok (.iadd, 1) := by decide +kernel
theorem d_Ker_send_56 : decode b_Ker_send 56 = .ok (.aload_n 1, 1) := by decide +kernel
theorem d_Ker_send_57 : decode b_Ker_send 57 = .ok (.getfield 120, 3) := by decide +kernel
theorem d_Ker_send_60 : decode b_Ker_send 60 = .ok (.iastore, 1) := by decide +kernel
theorem d_Ker_send_61 : decode b_Ker_send 61 = .ok (.aload_n 0, 1) := by decide +kernel
theorem d_Ker_send_62 : decode b_Ker_send 62 = .ok (.getfield 45, 3) := by decide +kernel
theorem d_Ker_send_65 : decode b_Ker_send 65 = .ok (.iload_n 3, 1) := by decide +kernel
theorem d_Ker_send_66 : decode b_Ker_send 66 = .ok (.dup2, 1) := by decide +kernel
theorem d_Ker_send_67 : decode b_Ker_send 67 = .ok (.iaload, 1) := by decide +kernel
theorem d_Ker_send_68 : decode b_Ker_send 68 = .ok (.iconst 1, 1) := by decide +kernel
theorem d_Ker_send_69 : decode b_Ker_send 69 = .ok (.iadd, 1) := by decide +kernel
theorem d_Ker_send_70 : decode b_Ker_send 70 = .ok (.iastore, 1) := by decide +kernel
theorem d_Ker_send_71 : decode b_Ker_send 71 = .ok (.aload_n 1, 1) := by decide +kernel
theorem d_Ker_send_72 : decode b_Ker_send 72 = .ok (.iconst 0, 1) := by decide +kernel
theorem d_Ker_send_73 : decode b_Ker_send 73 = .ok (.invokevirtual 117, 3) := by decide +kernel
theorem d_Ker_send_76 : decode b_Ker_send 76 = .ok (.iconst 1, 1) := by decide +kernel
theorem d_Ker_send_77 : decode b_Ker_send 77 = .ok (.ireturn, 1) := by decide +kernel
theorem q_Ker_send : px_y y_Ker_send 3 := by unfold px_y; decide +kernel
set_option maxHeartbeats 4000000 in
set_option maxRecDepth 100000 in
theorem c_k_send_T (l : Launch) (D : va_G) (cs : Nat → ClassId) (hk : Nat) (kr : Nat → Nat) (pq : Nat → Option Nat) (kf : Nat → Int32) (PV : Nat → Pvs) (pz : Nat → Option Nat) (tq : Nat → Option Nat) (rq : Nat → Option Nat) (ka : Nat → Nat → Int32) (TR : Nat → Nat → Nat) (TO : Nat → Option Nat) (TF : Nat → Nat → Int32) (TA : Nat → Nat → Nat → Int32) (RR : Nat → Nat → Nat) (RM : Nat → Option Nat) (RW : Nat → Option Nat) (RF : Nat → Nat → Int32) (RA : Nat → Nat → Nat → Int32) (RC : Nat → Nat → Int32) (p0 p1 : Int32) (ip hx : Nat) (g0 : p0.toInt = -1 ∨ (0 ≤ p0.toInt ∧ p0.toInt ≤ 12 ∧ 0 ≤ p1.toInt ∧ p1.toInt ≤ 25)) (g1 : (TF ip 21).toInt = 1) (hki : KnI pq PV pz tq rq TO TF TA RW RF) (hro : RoI ka) (hrm : RmI rq RM) (hip : ip < 13) (hcu : CuT pq PV tq TO ip hx) : MgI l y_Ker_send b_Ker_send 4 (.boolean) D cs 4 160 ((5 * ndS 13 tq + 4 * ndS 13 rq + ndS 13 RM)) ((9804 * ndS 13 tq + 342 * ndS 13 rq + 36864 * ndS 13 RM)) [.ref hk, .ref hx, .int p0, .int p1] [wd_Ker cs hk kr (fun _ => none) kf ka (gKe pq pz tq rq), fm 13 (fTx cs tq TR TO TF TA), fm 13 (fRw cs rq RR RM RW RF RA RC), fm 8 (fPp cs pq PV)] (fun _ => True) (fun v ps => ∃ (pz' : Nat → Option Nat) (tq' : Nat → Option Nat) (rq' : Nat → Option Nat) (ka' : Nat → Nat → Int32) (TR' : Nat → Nat → Nat) (TO' : Nat → Option Nat) (TF' : Nat → Nat → Int32) (TA' : Nat → Nat → Nat → Int32) (RR' : Nat → Nat → Nat) (RM' : Nat → Option Nat) (RW' : Nat → Option Nat) (RF' : Nat → Nat → Int32) (RA' : Nat → Nat → Nat → Int32) (RC' : Nat → Nat → Int32), (ps.1 = [wd_Ker cs hk kr (fun _ => none) kf ka' (gKe pq pz' tq' rq'), fm 13 (fTx cs tq' TR' TO' TF' TA'), fm 13 (fRw cs rq' RR' RM' RW' RF' RA' RC'), fm 8 (fPp cs pq PV)]) ∧ (v = 0 ∨ v = 1) ∧ (CuT pq PV tq' TO' ip hx) ∧ (KnI pq PV pz' tq' rq' TO' TF' TA' RW' RF') ∧ (RoI ka') ∧ (RmI rq' RM') ∧ (ps.2.1 + (5 * ndS 13 tq' + 4 * ndS 13 rq' + ndS 13 RM') ≤ 5 * ndS 13 tq + 4 * ndS 13 rq + ndS 13 RM) ∧ (ps.2.2 + (9804 * ndS 13 tq' + 342 * ndS 13 rq' + 36864 * ndS 13 RM') ≤ 9804 * ndS 13 tq + 342 * ndS 13 rq + 36864 * ndS 13 RM)) := by
  refine pg_enter (by decide) (Nat.le_of_ble_eq_true rfl) ?_
  intro p e s m below meth c A ls hAe S hr hlk hnm hA hT hX hw hl
  have hl : lv_has ls 4 [(0, .ref hk), (1, .ref hx), (2, .int p0), (3, .int p1)] := hl
  have lp0 := Int32.le_toInt p0
  have up0 := Int32.toInt_lt p0
  have lp1 := Int32.le_toInt p1
  have up1 := Int32.toInt_lt p1
  have cstm1 : ((-1) : Int32).toInt = (-1) := rfl
  have cst0 : (0 : Int32).toInt = 0 := rfl
  have cst1 : (1 : Int32).toInt = 1 := rfl
  have cst2 : (2 : Int32).toInt = 2 := rfl
  have cst4 : (4 : Int32).toInt = 4 := rfl
  refine lv_iload_n S.x S.b d_Ker_send_0 rfl (lv_at hl 2 rfl) ?_
  obtain ⟨j1, hp1, hj1, hjq1, hto1, hf01⟩ := hcu.2
  refine lv_iconst (v := (-1)) S.x S.b d_Ker_send_1 (by decide) ?_
  refine lv_icmp_ne (tgt := 13) S.x S.b d_Ker_send_2 (by decide) (fun c2 => ?_) (fun c2 => ?_)
  · have nc2 : ¬ p0.toInt = (-1 : Int) := mt (i_eq (x := p0) (y := (-1))).mpr c2
    refine lv_aload_n S.x S.b d_Ker_send_13 rfl (lv_at hl 0 rfl) ?_
    refine lv_iload_n S.x S.b d_Ker_send_14 rfl (lv_at hl 2 rfl) ?_
    refine px_calli (pr := []) (px_runV (As := [.int p0]) (rest := []) S (c_k_isRunning l D cs hk kr pq pz tq rq kf ka TR TO TF TA RR RM RW RF RA RC PV p0  (show 0 ≤ p0.toInt from by omega) (show p0.toInt ≤ 12 from by omega) hki _) hT (pr := []) (pcs := [wd_Ker cs hk kr (fun _ => none) kf ka (gKe pq pz tq rq), fm 13 (fTx cs tq TR TO TF TA), fm 13 (fRw cs rq RR RM RW RF RA RC), fm 8 (fPp cs pq PV)]) hw px_X.tt (px_recv hT hw 0 0 rfl rfl rfl) m8_154 m8_151 m8_153 ms_6_1 m1_19 q_Ker_isRunning ⟨Nat.le_of_ble_eq_true rfl, Nat.le_of_ble_eq_true rfl⟩ hl.1 rfl (Nat.le_of_ble_eq_true rfl) d_Ker_send_15 ⟨show 0 + 0 ≤ (5 * ndS 13 tq + 4 * ndS 13 rq + ndS 13 RM) from (by first | exact oz_9c199dfd7f | omega), show 0 + 0 ≤ (9804 * ndS 13 tq + 342 * ndS 13 rq + 36864 * ndS 13 RM) from (by first | exact oz_54615505fb | omega)⟩) hw hA (fun v5 p4 H locs hp4 hw => ?_)
    obtain ⟨rfl, e6, e7⟩ := hp4
    have e6 := z_rng e6
    have e7 : NnP pz p0 v5 := e7
    have hw : pw D A s.heap H locs [wd_Ker cs hk kr (fun _ => none) kf ka (gKe pq pz tq rq), fm 13 (fTx cs tq TR TO TF TA), fm 13 (fRw cs rq RR RM RW RF RA RC), fm 8 (fPp cs pq PV)] := hw
    have lv5 := Int32.le_toInt v5
    have uv5 := Int32.toInt_lt v5
    refine lv_if_eq (tgt := 71) S.x S.b d_Ker_send_18 (by decide) (fun c8 => ?_) (fun c8 => ?_)
    · have nc8 : v5.toInt = (0 : Int) := (i_eq (x := v5) (y := 0)).mp c8
      refine lv_aload_n S.x S.b d_Ker_send_71 rfl (lv_at hl 1 rfl) ?_
      refine lv_iconst (v := 0) S.x S.b d_Ker_send_72 (by decide) ?_
      have hw : pw D A s.heap _ _ [wd_Ker cs hk kr (fun _ => none) kf ka (gKe pq pz tq rq), fm 13 (fRw cs rq RR RM RW RF RA RC), fm 8 (fPp cs pq PV), fm 13 (fTx cs tq TR TO TF TA)] := hw.sub [0, 2, 3, 1] rfl rfl
      have hw : pw D A s.heap _ _ [wd_Ker cs hk kr (fun _ => none) kf ka (gKe pq pz tq rq), fm 13 (fRw cs rq RR RM RW RF RA RC), fm 8 (fPp cs pq PV), fo 13 (fTx cs tq TR TO TF TA) ip, wd_Txp cs hx (TR ip) (fun k => if k = 3 then (some hp1) else none) (TF ip) (TA ip) (fun _ _ => none)] := ftx_out (pr := [wd_Ker cs hk kr (fun _ => none) kf ka (gKe pq pz tq rq), fm 13 (fRw cs rq RR RM RW RF RA RC), fm 8 (fPp cs pq PV)]) hw hip hcu.1 hto1
      have htn10 : TxN ip (TF ip) (TA ip) := hki.2.1 ip hip _ hcu.1
      obtain ⟨lk, ⟨i2, i3⟩, ⟨i4, i5⟩, ⟨i6, i7⟩, i8, ⟨i9, i11⟩, i10, hrt⟩ := htn10.1
      have hid10 := htn10.2.1
      have hch10 := htn10.2.2
      unfold KcI at hch10
      refine px_callv (pr := [wd_Ker cs hk kr (fun _ => none) kf ka (gKe pq pz tq rq), fm 13 (fRw cs rq RR RM RW RF RA RC), fm 8 (fPp cs pq PV), fo 13 (fTx cs tq TR TO TF TA) ip]) (px_runA (As := [.int 0]) (rest := []) S (c_Txp_answer l D cs hx (TR ip) (fun _ _ => none) hp1 (TF ip) (TA ip) 0  (show TxOk ((TF ip) 4) ((TF ip) 5) ((TF ip) 8) ((TF ip) 9) ((TF ip) 17) 0 ((TA ip) 2) from ⟨(by first | exact lk | exact lk_eq lk (by omega) | exact lk_mk (by omega)), ⟨by omega, by omega⟩, ⟨by omega, by omega⟩, ⟨by omega, by omega⟩, by omega, ⟨by decide, by decide⟩, (by show _ + _ + (0 : Int) ≤ 100; omega), hrt⟩) _) hT (pr := [wd_Ker cs hk kr (fun _ => none) kf ka (gKe pq pz tq rq), fm 13 (fRw cs rq RR RM RW RF RA RC), fm 8 (fPp cs pq PV), fo 13 (fTx cs tq TR TO TF TA) ip]) (pcs := [wd_Txp cs hx (TR ip) (fun k => if k = 3 then (some hp1) else none) (TF ip) (TA ip) (fun _ _ => none)]) hw px_X.tt (C := "HomeSystem$TextProcess") (owner := "HomeSystem$AnyProcess") (x := ⟨"HomeSystem$AnyProcess", "answer", "(I)V"⟩) (px_recv hT hw 4 0 rfl rfl rfl) m8_75 m8_67 m8_69 m8_74 m8_73 m1_35 m8_68n ⟨by decide, by decide⟩ rfl q_Txp_answer ⟨Nat.le_of_ble_eq_true rfl, Nat.le_of_ble_eq_true rfl⟩ hl.1 rfl (Nat.le_of_ble_eq_true rfl) d_Ker_send_73 ⟨show 0 + 0 ≤ (5 * ndS 13 tq + 4 * ndS 13 rq + ndS 13 RM) from (by first | exact oz_9c199dfd7f | omega), show 0 + 0 ≤ (9804 * ndS 13 tq + 342 * ndS 13 rq + 36864 * ndS 13 RM) from (by first | exact oz_54615505fb | omega)⟩) hw hA (fun p15 H locs hp15 hw => ?_)
      obtain ⟨f13, a14, rfl, e17, e18, e19, e20, e21, e22⟩ := hp15
      have e17 : TxOk (f13 4) (f13 5) (f13 8) (f13 9) (f13 17) (f13 21) (a14 2) := e17
      obtain ⟨lk, ⟨i2, i3⟩, ⟨i4, i5⟩, ⟨i6, i7⟩, i8, ⟨i9, i11⟩, i10, hrt⟩ := e17
      have e18 : (f13 9).toInt = ((TF ip) 9).toInt := e18
      have e19 : (f13 17).toInt = ((TF ip) 17).toInt := e19
      have e20 : (f13 21).toInt = 0 := e20
      have e21 : (f13 15).toInt = ((TF ip) 15).toInt := e21
      have e22 : (f13 20).toInt = ((TF ip) 20).toInt := e22
      have hw : pw D A s.heap H locs [wd_Ker cs hk kr (fun _ => none) kf ka (gKe pq pz tq rq), fm 13 (fRw cs rq RR RM RW RF RA RC), fm 8 (fPp cs pq PV), fo 13 (fTx cs tq TR TO TF TA) ip, wd_Txp cs hx (TR ip) (fun k => if k = 3 then (some hp1) else none) f13 a14 (fun _ _ => none)] := hw
      refine lv_iconst (v := 1) S.x S.b d_Ker_send_76 (by decide) ?_
      have hw := ftx_in0 (pr := [wd_Ker cs hk kr (fun _ => none) kf ka (gKe pq pz tq rq), fm 13 (fRw cs rq RR RM RW RF RA RC), fm 8 (fPp cs pq PV)]) hw hip hcu.1 hto1
      obtain ⟨TF23, hu_TF23⟩ : ∃ y : Nat → Nat → Int32, y = va_up TF ip f13 := ⟨_, rfl⟩
      obtain ⟨TA24, hu_TA24⟩ : ∃ y : Nat → Nat → Nat → Int32, y = va_up TA ip a14 := ⟨_, rfl⟩
      have hw : pw D A s.heap _ _ [wd_Ker cs hk kr (fun _ => none) kf ka (gKe pq pz tq rq), fm 13 (fRw cs rq RR RM RW RF RA RC), fm 8 (fPp cs pq PV), fm 13 (fTx cs tq TR TO TF23 TA24)] := (by rw [hu_TF23, hu_TA24]; exact hw)
      have hki : KnI pq PV pz tq rq TO TF23 TA24 RW RF := (by rw [hu_TF23, hu_TA24]; exact hki.upT (show TxN ip f13 a14 from ⟨(show TxOk (f13 4) (f13 5) (f13 8) (f13 9) (f13 17) (f13 21) (a14 2) from ⟨(by first | exact lk | exact lk_eq lk (by omega) | exact lk_mk (by omega)), ⟨by omega, by omega⟩, ⟨by omega, by omega⟩, ⟨by omega, by omega⟩, by omega, ⟨by omega, by omega⟩, by omega, hrt⟩), (show ((f13 15).toInt) = ((ip : Nat) : Int) from by omega), (show 0 ≤ (f13 20).toInt ∧ (f13 20).toInt ≤ 3 ∧ ((f13 20).toInt = 0 ∨ 3 * ((ip : Nat) : Int) + (f13 20).toInt ≤ 12) from by omega)⟩))
      have hz21_TF23 : (TF23 ip 21).toInt = (f13 21).toInt := (by rw [hu_TF23, va_up_s]; try rfl)
      have hw : pw D A s.heap _ _ [wd_Ker cs hk kr (fun _ => none) kf ka (gKe pq pz tq rq), fm 13 (fTx cs tq TR TO TF23 TA24), fm 13 (fRw cs rq RR RM RW RF RA RC), fm 8 (fPp cs pq PV)] := hw.sub [0, 3, 1, 2] rfl rfl
      exact pg_iret (v := 1) S hr rfl hlk hAe hw (show 0 ≤ (5 * ndS 13 tq + 4 * ndS 13 rq + ndS 13 RM) from by first | exact oz_86e49526c7 | omega) (show 0 ≤ (9804 * ndS 13 tq + 342 * ndS 13 rq + 36864 * ndS 13 RM) from by first | exact oz_fc3b58e969 | omega) (⟨pz, tq, rq, ka, TR, TO, TF23, TA24, RR, RM, RW, RF, RA, RC, rfl, (show (1 : Int32) = 0 ∨ (1 : Int32) = 1 from by first | exact Or.inl rfl | exact Or.inr rfl | exact z_or (by omega)), (show CuT pq PV tq TO ip hx from hcu), (show KnI pq PV pz tq rq TO TF23 TA24 RW RF from hki), (show RoI ka from hro), (show RmI rq RM from hrm), (show 0 + (5 * ndS 13 tq + 4 * ndS 13 rq + ndS 13 RM) ≤ 5 * ndS 13 tq + 4 * ndS 13 rq + ndS 13 RM from by first | exact oz_9d19b050ad | omega), (show 0 + (9804 * ndS 13 tq + 342 * ndS 13 rq + 36864 * ndS 13 RM) ≤ 9804 * ndS 13 tq + 342 * ndS 13 rq + 36864 * ndS 13 RM from by first | exact oz_b5592d0ae7 | omega)⟩) d_Ker_send_77
    · have nc8 : ¬ v5.toInt = (0 : Int) := mt (i_eq (x := v5) (y := 0)).mpr c8
      refine lv_aload_n S.x S.b d_Ker_send_21 rfl (lv_at hl 0 rfl) ?_
      refine px_get S k_Ker hT hw 0 0 7 (v := .ref (kr 7)) rfl rfl rfl (by decide) m2_228 d_Ker_send_22 ?_
      refine lv_iload_n S.x S.b d_Ker_send_25 rfl (lv_at hl 3 rfl) ?_
      refine px_iald S hT hw 0 8 (n := 26) (f := (ka 7)) rfl (ga_Ker_7 _ _ _ _ _ _ _) (x := p1) (vp_in_iff.mpr (by constructor <;> omega)) d_Ker_send_26 ?_
      refine lv_topi (fun z25 ez25 => ?_)
      have lz25 := Int32.le_toInt z25
      have uz25 := Int32.toInt_lt z25
      have qz25 := hro.at7 (x := p1) (by omega) (by omega) ez25
      refine lv_iconst (v := 4) S.x S.b d_Ker_send_27 (by decide) ?_
      refine lv_icmp_ne (tgt := 33) S.x S.b d_Ker_send_28 (by decide) (fun c26 => ?_) (fun c26 => ?_)
      · have nc26 : ¬ z25.toInt = (4 : Int) := mt (i_eq (x := z25) (y := 4)).mpr c26
        refine lv_aload_n S.x S.b d_Ker_send_33 rfl (lv_at hl 0 rfl) ?_
        refine px_get S k_Ker hT hw 0 0 5 (v := .ref (kr 5)) rfl rfl rfl (by decide) m2_226 d_Ker_send_34 ?_
        refine lv_iconst (v := 4) S.x S.b d_Ker_send_37 (by decide) ?_
        refine lv_iload_n S.x S.b d_Ker_send_38 rfl (lv_at hl 3 rfl) ?_
        refine lv_imul S.x S.b d_Ker_send_39 ?_
        refine lv_topi (fun z28 ez28 => ?_)
        have lz28 := Int32.le_toInt z28
        have uz28 := Int32.toInt_lt z28
        have tz28 : -2147483648 ≤ 4 * p1.toInt → 4 * p1.toInt < 2147483648 → z28.toInt = 4 * p1.toInt := by rw [ez28]; exact i_mulc 4 p1 (by decide)
        try replace tz28 : z28.toInt = 4 * p1.toInt := by omega
        refine lv_aload_n S.x S.b d_Ker_send_40 rfl (lv_at hl 0 rfl) ?_
        refine px_get S k_Ker hT hw 0 0 6 (v := .ref (kr 6)) rfl rfl rfl (by decide) m2_227 d_Ker_send_41 ?_
        refine lv_iload_n S.x S.b d_Ker_send_44 rfl (lv_at hl 3 rfl) ?_
        refine px_iald S hT hw 0 7 (n := 26) (f := (ka 6)) rfl (ga_Ker_6 _ _ _ _ _ _ _) (x := p1) (vp_in_iff.mpr (by constructor <;> omega)) d_Ker_send_45 ?_
        refine lv_topi (fun z29 ez29 => ?_)
        have lz29 := Int32.le_toInt z29
        have uz29 := Int32.toInt_lt z29
        have qz29 := hro.at6 (x := p1) (by omega) (by omega) ez29
        refine lv_aload_n S.x S.b d_Ker_send_46 rfl (lv_at hl 0 rfl) ?_
        refine px_get S k_Ker hT hw 0 0 7 (v := .ref (kr 7)) rfl rfl rfl (by decide) m2_228 d_Ker_send_47 ?_
        refine lv_iload_n S.x S.b d_Ker_send_50 rfl (lv_at hl 3 rfl) ?_
        refine px_iald S hT hw 0 8 (n := 26) (f := (ka 7)) rfl (ga_Ker_7 _ _ _ _ _ _ _) (x := p1) (vp_in_iff.mpr (by constructor <;> omega)) d_Ker_send_51 ?_
        refine lv_topi (fun z30 ez30 => ?_)
        have lz30 := Int32.le_toInt z30
        have uz30 := Int32.toInt_lt z30
        have qz30 := hro.at7 (x := p1) (by omega) (by omega) ez30
        refine lv_iadd S.x S.b d_Ker_send_52 ?_
        refine lv_topi (fun z31 ez31 => ?_)
        have tz31 : z31.toInt = (z29.toInt + z30.toInt + 2147483648) % 4294967296 - 2147483648 := by rw [ez31]; exact i_add z29 z30
        have lz31 := Int32.le_toInt z31
        have uz31 := Int32.toInt_lt z31
        try replace tz31 : z31.toInt = z29.toInt + z30.toInt := by omega
        refine lv_iconst (v := 4) S.x S.b d_Ker_send_53 (by decide) ?_
        refine lv_irem S.x S.b d_Ker_send_54 (by decide) ?_
        refine lv_topi (fun z32 ez32 => ?_)
        have lz32 := Int32.le_toInt z32
        have uz32 := Int32.toInt_lt z32
        have tz32 : 0 ≤ z31.toInt → z32.toInt = z31.toInt % 4 := (by intro h9; rw [ez32]; exact i_irem9 h9 (y := 4) (d := 4) (by decide) (by decide))
        try replace tz32 := tz32 (by omega)
        refine lv_iadd S.x S.b d_Ker_send_55 ?_
        refine lv_topi (fun z33 ez33 => ?_)
        have tz33 : z33.toInt = (z28.toInt + z32.toInt + 2147483648) % 4294967296 - 2147483648 := by rw [ez33]; exact i_add z28 z32
        have lz33 := Int32.le_toInt z33
        have uz33 := Int32.toInt_lt z33
        try replace tz33 : z33.toInt = z28.toInt + z32.toInt := by omega
        refine lv_aload_n S.x S.b d_Ker_send_56 rfl (lv_at hl 1 rfl) ?_
        have hw : pw D A s.heap _ _ [wd_Ker cs hk kr (fun _ => none) kf ka (gKe pq pz tq rq), fm 13 (fRw cs rq RR RM RW RF RA RC), fm 8 (fPp cs pq PV), fm 13 (fTx cs tq TR TO TF TA)] := hw.sub [0, 2, 3, 1] rfl rfl
        have hw : pw D A s.heap _ _ [wd_Ker cs hk kr (fun _ => none) kf ka (gKe pq pz tq rq), fm 13 (fRw cs rq RR RM RW RF RA RC), fm 8 (fPp cs pq PV), fo 13 (fTx cs tq TR TO TF TA) ip, wd_Txp cs hx (TR ip) (fun k => if k = 3 then (some hp1) else none) (TF ip) (TA ip) (fun _ _ => none)] := ftx_out (pr := [wd_Ker cs hk kr (fun _ => none) kf ka (gKe pq pz tq rq), fm 13 (fRw cs rq RR RM RW RF RA RC), fm 8 (fPp cs pq PV)]) hw hip hcu.1 hto1
        have htn34 : TxN ip (TF ip) (TA ip) := hki.2.1 ip hip _ hcu.1
        obtain ⟨lk, ⟨i2, i3⟩, ⟨i4, i5⟩, ⟨i6, i7⟩, i8, ⟨i9, i11⟩, i10, hrt⟩ := htn34.1
        have hid34 := htn34.2.1
        have hch34 := htn34.2.2
        unfold KcI at hch34
        refine px_get S k_Txp hT hw 4 0 24 (v := .int ((TF ip) 24)) rfl rfl rfl (by decide) m6_166 d_Ker_send_57 ?_
        refine px_iast S hT hw 0 6 (n := 104) (f := (ka 5)) (x := z33) (y := ((TF ip) 24)) rfl (ga_Ker_5 _ _ _ _ _ _ _) (vp_in_iff.mpr (by constructor <;> omega)) d_Ker_send_60 (w' := wd_Ker cs hk kr (fun _ => none) kf (va_up ka 5 (upd (ka 5) z33.toNatClampNeg ((TF ip) 24))) (gKe pq pz tq rq)) (ps' := [wd_Ker cs hk kr (fun _ => none) kf (va_up ka 5 (upd (ka 5) z33.toNatClampNeg ((TF ip) 24))) (gKe pq pz tq rq), fm 13 (fRw cs rq RR RM RW RF RA RC), fm 8 (fPp cs pq PV), fo 13 (fTx cs tq TR TO TF TA) ip, wd_Txp cs hx (TR ip) (fun k => if k = 3 then (some hp1) else none) (TF ip) (TA ip) (fun _ _ => none)]) (sa_Ker_5 _ _ _ _ _ _ _ _) rfl (fun H locs hw => ?_)
        have hro : RoI (va_up ka 5 (upd (ka 5) z33.toNatClampNeg ((TF ip) 24))) := hro.oth (by decide) (by decide)
        refine lv_aload_n S.x S.b d_Ker_send_61 rfl (lv_at hl 0 rfl) ?_
        refine px_get S k_Ker hT hw 0 0 7 (v := .ref (kr 7)) rfl rfl rfl (by decide) m2_228 d_Ker_send_62 ?_
        refine lv_iload_n S.x S.b d_Ker_send_65 rfl (lv_at hl 3 rfl) ?_
        refine lv_dup2_11 S.x S.b d_Ker_send_66 rfl rfl ?_
        refine px_iald S hT hw 0 8 (n := 26) (f := ((va_up ka 5 (upd (ka 5) z33.toNatClampNeg ((TF ip) 24))) 7)) rfl (ga_Ker_7 _ _ _ _ _ _ _) (x := p1) (vp_in_iff.mpr (by constructor <;> omega)) d_Ker_send_67 ?_
        refine lv_topi (fun z35 ez35 => ?_)
        have lz35 := Int32.le_toInt z35
        have uz35 := Int32.toInt_lt z35
        have qz35 := hro.at7 (x := p1) (by omega) (by omega) ez35
        have hlnk : z35.toInt = z25.toInt := (by rw [ez35, ez25, va_up_n (by decide)])
        refine lv_iconst (v := 1) S.x S.b d_Ker_send_68 (by decide) ?_
        refine lv_iadd S.x S.b d_Ker_send_69 ?_
        refine lv_topi (fun z36 ez36 => ?_)
        have tz36 : z36.toInt = (z35.toInt + (1 : Int) + 2147483648) % 4294967296 - 2147483648 := by rw [ez36]; exact i_add z35 1
        have lz36 := Int32.le_toInt z36
        have uz36 := Int32.toInt_lt z36
        try replace tz36 : z36.toInt = z35.toInt + (1 : Int) := by omega
        refine px_iast S hT hw 0 8 (n := 26) (f := ((va_up ka 5 (upd (ka 5) z33.toNatClampNeg ((TF ip) 24))) 7)) (x := p1) (y := z36) rfl (ga_Ker_7 _ _ _ _ _ _ _) (vp_in_iff.mpr (by constructor <;> omega)) d_Ker_send_70 (w' := wd_Ker cs hk kr (fun _ => none) kf (va_up (va_up ka 5 (upd (ka 5) z33.toNatClampNeg ((TF ip) 24))) 7 (upd ((va_up ka 5 (upd (ka 5) z33.toNatClampNeg ((TF ip) 24))) 7) p1.toNatClampNeg z36)) (gKe pq pz tq rq)) (ps' := [wd_Ker cs hk kr (fun _ => none) kf (va_up (va_up ka 5 (upd (ka 5) z33.toNatClampNeg ((TF ip) 24))) 7 (upd ((va_up ka 5 (upd (ka 5) z33.toNatClampNeg ((TF ip) 24))) 7) p1.toNatClampNeg z36)) (gKe pq pz tq rq), fm 13 (fRw cs rq RR RM RW RF RA RC), fm 8 (fPp cs pq PV), fo 13 (fTx cs tq TR TO TF TA) ip, wd_Txp cs hx (TR ip) (fun k => if k = 3 then (some hp1) else none) (TF ip) (TA ip) (fun _ _ => none)]) (sa_Ker_7 _ _ _ _ _ _ _ _) rfl (fun H locs hw => ?_)
        have hro : RoI (va_up (va_up ka 5 (upd (ka 5) z33.toNatClampNeg ((TF ip) 24))) 7 (upd ((va_up ka 5 (upd (ka 5) z33.toNatClampNeg ((TF ip) 24))) 7) p1.toNatClampNeg z36)) := hro.up7 (by omega) (by omega)
        refine lv_aload_n S.x S.b d_Ker_send_71 rfl (lv_at hl 1 rfl) ?_
        refine lv_iconst (v := 0) S.x S.b d_Ker_send_72 (by decide) ?_
        refine px_callv (pr := [wd_Ker cs hk kr (fun _ => none) kf (va_up (va_up ka 5 (upd (ka 5) z33.toNatClampNeg ((TF ip) 24))) 7 (upd ((va_up ka 5 (upd (ka 5) z33.toNatClampNeg ((TF ip) 24))) 7) p1.toNatClampNeg z36)) (gKe pq pz tq rq), fm 13 (fRw cs rq RR RM RW RF RA RC), fm 8 (fPp cs pq PV), fo 13 (fTx cs tq TR TO TF TA) ip]) (px_runA (As := [.int 0]) (rest := []) S (c_Txp_answer l D cs hx (TR ip) (fun _ _ => none) hp1 (TF ip) (TA ip) 0  (show TxOk ((TF ip) 4) ((TF ip) 5) ((TF ip) 8) ((TF ip) 9) ((TF ip) 17) 0 ((TA ip) 2) from ⟨(by first | exact lk | exact lk_eq lk (by omega) | exact lk_mk (by omega)), ⟨by omega, by omega⟩, ⟨by omega, by omega⟩, ⟨by omega, by omega⟩, by omega, ⟨by decide, by decide⟩, (by show _ + _ + (0 : Int) ≤ 100; omega), hrt⟩) _) hT (pr := [wd_Ker cs hk kr (fun _ => none) kf (va_up (va_up ka 5 (upd (ka 5) z33.toNatClampNeg ((TF ip) 24))) 7 (upd ((va_up ka 5 (upd (ka 5) z33.toNatClampNeg ((TF ip) 24))) 7) p1.toNatClampNeg z36)) (gKe pq pz tq rq), fm 13 (fRw cs rq RR RM RW RF RA RC), fm 8 (fPp cs pq PV), fo 13 (fTx cs tq TR TO TF TA) ip]) (pcs := [wd_Txp cs hx (TR ip) (fun k => if k = 3 then (some hp1) else none) (TF ip) (TA ip) (fun _ _ => none)]) hw px_X.tt (C := "HomeSystem$TextProcess") (owner := "HomeSystem$AnyProcess") (x := ⟨"HomeSystem$AnyProcess", "answer", "(I)V"⟩) (px_recv hT hw 4 0 rfl rfl rfl) m8_75 m8_67 m8_69 m8_74 m8_73 m1_35 m8_68n ⟨by decide, by decide⟩ rfl q_Txp_answer ⟨Nat.le_of_ble_eq_true rfl, Nat.le_of_ble_eq_true rfl⟩ hl.1 rfl (Nat.le_of_ble_eq_true rfl) d_Ker_send_73 ⟨show 0 + 0 ≤ (5 * ndS 13 tq + 4 * ndS 13 rq + ndS 13 RM) from (by first | exact oz_9c199dfd7f | omega), show 0 + 0 ≤ (9804 * ndS 13 tq + 342 * ndS 13 rq + 36864 * ndS 13 RM) from (by first | exact oz_54615505fb | omega)⟩) hw hA (fun p41 H locs hp41 hw => ?_)
        obtain ⟨f39, a40, rfl, e43, e44, e45, e46, e47, e48⟩ := hp41
        have e43 : TxOk (f39 4) (f39 5) (f39 8) (f39 9) (f39 17) (f39 21) (a40 2) := e43
        obtain ⟨lk, ⟨i2, i3⟩, ⟨i4, i5⟩, ⟨i6, i7⟩, i8, ⟨i9, i11⟩, i10, hrt⟩ := e43
        have e44 : (f39 9).toInt = ((TF ip) 9).toInt := e44
        have e45 : (f39 17).toInt = ((TF ip) 17).toInt := e45
        have e46 : (f39 21).toInt = 0 := e46
        have e47 : (f39 15).toInt = ((TF ip) 15).toInt := e47
        have e48 : (f39 20).toInt = ((TF ip) 20).toInt := e48
        have hw : pw D A s.heap H locs [wd_Ker cs hk kr (fun _ => none) kf (va_up (va_up ka 5 (upd (ka 5) z33.toNatClampNeg ((TF ip) 24))) 7 (upd ((va_up ka 5 (upd (ka 5) z33.toNatClampNeg ((TF ip) 24))) 7) p1.toNatClampNeg z36)) (gKe pq pz tq rq), fm 13 (fRw cs rq RR RM RW RF RA RC), fm 8 (fPp cs pq PV), fo 13 (fTx cs tq TR TO TF TA) ip, wd_Txp cs hx (TR ip) (fun k => if k = 3 then (some hp1) else none) f39 a40 (fun _ _ => none)] := hw
        refine lv_iconst (v := 1) S.x S.b d_Ker_send_76 (by decide) ?_
        have hw := ftx_in0 (pr := [wd_Ker cs hk kr (fun _ => none) kf (va_up (va_up ka 5 (upd (ka 5) z33.toNatClampNeg ((TF ip) 24))) 7 (upd ((va_up ka 5 (upd (ka 5) z33.toNatClampNeg ((TF ip) 24))) 7) p1.toNatClampNeg z36)) (gKe pq pz tq rq), fm 13 (fRw cs rq RR RM RW RF RA RC), fm 8 (fPp cs pq PV)]) hw hip hcu.1 hto1
        obtain ⟨TF49, hu_TF49⟩ : ∃ y : Nat → Nat → Int32, y = va_up TF ip f39 := ⟨_, rfl⟩
        obtain ⟨TA50, hu_TA50⟩ : ∃ y : Nat → Nat → Nat → Int32, y = va_up TA ip a40 := ⟨_, rfl⟩
        have hw : pw D A s.heap _ _ [wd_Ker cs hk kr (fun _ => none) kf (va_up (va_up ka 5 (upd (ka 5) z33.toNatClampNeg ((TF ip) 24))) 7 (upd ((va_up ka 5 (upd (ka 5) z33.toNatClampNeg ((TF ip) 24))) 7) p1.toNatClampNeg z36)) (gKe pq pz tq rq), fm 13 (fRw cs rq RR RM RW RF RA RC), fm 8 (fPp cs pq PV), fm 13 (fTx cs tq TR TO TF49 TA50)] := (by rw [hu_TF49, hu_TA50]; exact hw)
        have hki : KnI pq PV pz tq rq TO TF49 TA50 RW RF := (by rw [hu_TF49, hu_TA50]; exact hki.upT (show TxN ip f39 a40 from ⟨(show TxOk (f39 4) (f39 5) (f39 8) (f39 9) (f39 17) (f39 21) (a40 2) from ⟨(by first | exact lk | exact lk_eq lk (by omega) | exact lk_mk (by omega)), ⟨by omega, by omega⟩, ⟨by omega, by omega⟩, ⟨by omega, by omega⟩, by omega, ⟨by omega, by omega⟩, by omega, hrt⟩), (show ((f39 15).toInt) = ((ip : Nat) : Int) from by omega), (show 0 ≤ (f39 20).toInt ∧ (f39 20).toInt ≤ 3 ∧ ((f39 20).toInt = 0 ∨ 3 * ((ip : Nat) : Int) + (f39 20).toInt ≤ 12) from by omega)⟩))
        have hz21_TF49 : (TF49 ip 21).toInt = (f39 21).toInt := (by rw [hu_TF49, va_up_s]; try rfl)
        have hw : pw D A s.heap _ _ [wd_Ker cs hk kr (fun _ => none) kf (va_up (va_up ka 5 (upd (ka 5) z33.toNatClampNeg ((TF ip) 24))) 7 (upd ((va_up ka 5 (upd (ka 5) z33.toNatClampNeg ((TF ip) 24))) 7) p1.toNatClampNeg z36)) (gKe pq pz tq rq), fm 13 (fTx cs tq TR TO TF49 TA50), fm 13 (fRw cs rq RR RM RW RF RA RC), fm 8 (fPp cs pq PV)] := hw.sub [0, 3, 1, 2] rfl rfl
        exact pg_iret (v := 1) S hr rfl hlk hAe hw (show 0 ≤ (5 * ndS 13 tq + 4 * ndS 13 rq + ndS 13 RM) from by first | exact oz_86e49526c7 | omega) (show 0 ≤ (9804 * ndS 13 tq + 342 * ndS 13 rq + 36864 * ndS 13 RM) from by first | exact oz_fc3b58e969 | omega) (⟨pz, tq, rq, (va_up (va_up ka 5 (upd (ka 5) z33.toNatClampNeg ((TF ip) 24))) 7 (upd ((va_up ka 5 (upd (ka 5) z33.toNatClampNeg ((TF ip) 24))) 7) p1.toNatClampNeg z36)), TR, TO, TF49, TA50, RR, RM, RW, RF, RA, RC, rfl, (show (1 : Int32) = 0 ∨ (1 : Int32) = 1 from by first | exact Or.inl rfl | exact Or.inr rfl | exact z_or (by omega)), (show CuT pq PV tq TO ip hx from hcu), (show KnI pq PV pz tq rq TO TF49 TA50 RW RF from hki), (show RoI (va_up (va_up ka 5 (upd (ka 5) z33.toNatClampNeg ((TF ip) 24))) 7 (upd ((va_up ka 5 (upd (ka 5) z33.toNatClampNeg ((TF ip) 24))) 7) p1.toNatClampNeg z36)) from hro), (show RmI rq RM from hrm), (show 0 + (5 * ndS 13 tq + 4 * ndS 13 rq + ndS 13 RM) ≤ 5 * ndS 13 tq + 4 * ndS 13 rq + ndS 13 RM from by first | exact oz_9d19b050ad | omega), (show 0 + (9804 * ndS 13 tq + 342 * ndS 13 rq + 36864 * ndS 13 RM) ≤ 9804 * ndS 13 tq + 342 * ndS 13 rq + 36864 * ndS 13 RM from by first | exact oz_b5592d0ae7 | omega)⟩) d_Ker_send_77
      · have nc26 : z25.toInt = (4 : Int) := (i_eq (x := z25) (y := 4)).mp c26
        refine lv_iconst (v := 0) S.x S.b d_Ker_send_31 (by decide) ?_
        exact pg_iret (v := 0) S hr rfl hlk hAe hw (show 0 ≤ (5 * ndS 13 tq + 4 * ndS 13 rq + ndS 13 RM) from by first | exact oz_86e49526c7 | omega) (show 0 ≤ (9804 * ndS 13 tq + 342 * ndS 13 rq + 36864 * ndS 13 RM) from by first | exact oz_fc3b58e969 | omega) (⟨pz, tq, rq, ka, TR, TO, TF, TA, RR, RM, RW, RF, RA, RC, rfl, (show (0 : Int32) = 0 ∨ (0 : Int32) = 1 from by first | exact Or.inl rfl | exact Or.inr rfl | exact z_or (by omega)), (show CuT pq PV tq TO ip hx from hcu), (show KnI pq PV pz tq rq TO TF TA RW RF from hki), (show RoI ka from hro), (show RmI rq RM from hrm), (show 0 + (5 * ndS 13 tq + 4 * ndS 13 rq + ndS 13 RM) ≤ 5 * ndS 13 tq + 4 * ndS 13 rq + ndS 13 RM from by first | exact oz_9d19b050ad | omega), (show 0 + (9804 * ndS 13 tq + 342 * ndS 13 rq + 36864 * ndS 13 RM) ≤ 9804 * ndS 13 tq + 342 * ndS 13 rq + 36864 * ndS 13 RM from by first | exact oz_b5592d0ae7 | omega)⟩) d_Ker_send_32
  · have nc2 : p0.toInt = (-1 : Int) := (i_eq (x := p0) (y := (-1))).mp c2
    refine lv_aload_n S.x S.b d_Ker_send_5 rfl (lv_at hl 1 rfl) ?_
    refine lv_iconst (v := 2) S.x S.b d_Ker_send_6 (by decide) ?_
    refine lv_iconst (v := 0) S.x S.b d_Ker_send_7 (by decide) ?_
    have hw : pw D A s.heap _ _ [wd_Ker cs hk kr (fun _ => none) kf ka (gKe pq pz tq rq), fm 13 (fRw cs rq RR RM RW RF RA RC), fm 8 (fPp cs pq PV), fm 13 (fTx cs tq TR TO TF TA)] := hw.sub [0, 2, 3, 1] rfl rfl
    have hw : pw D A s.heap _ _ [wd_Ker cs hk kr (fun _ => none) kf ka (gKe pq pz tq rq), fm 13 (fRw cs rq RR RM RW RF RA RC), fm 8 (fPp cs pq PV), fo 13 (fTx cs tq TR TO TF TA) ip, wd_Txp cs hx (TR ip) (fun k => if k = 3 then (some hp1) else none) (TF ip) (TA ip) (fun _ _ => none)] := ftx_out (pr := [wd_Ker cs hk kr (fun _ => none) kf ka (gKe pq pz tq rq), fm 13 (fRw cs rq RR RM RW RF RA RC), fm 8 (fPp cs pq PV)]) hw hip hcu.1 hto1
    have htn51 : TxN ip (TF ip) (TA ip) := hki.2.1 ip hip _ hcu.1
    obtain ⟨lk, ⟨i2, i3⟩, ⟨i4, i5⟩, ⟨i6, i7⟩, i8, ⟨i9, i11⟩, i10, hrt⟩ := htn51.1
    have hid51 := htn51.2.1
    have hch51 := htn51.2.2
    unfold KcI at hch51
    refine px_callv (pr := [wd_Ker cs hk kr (fun _ => none) kf ka (gKe pq pz tq rq), fm 13 (fRw cs rq RR RM RW RF RA RC), fm 8 (fPp cs pq PV), fo 13 (fTx cs tq TR TO TF TA) ip]) (px_runU (As := [.int 2, .int 0]) (rest := []) S (c_finish_Txp l D cs hx (TR ip) (fun _ _ => none) hp1 (TF ip) (TA ip) 2 0  (show TxOk ((TF ip) 4) ((TF ip) 5) ((TF ip) 8) ((TF ip) 9) ((TF ip) 17) ((TF ip) 21) ((TA ip) 2) from ⟨(by first | exact lk | exact lk_eq lk (by omega) | exact lk_mk (by omega)), ⟨by omega, by omega⟩, ⟨by omega, by omega⟩, ⟨by omega, by omega⟩, by omega, ⟨by first | exact oz_1b364b1c5f g1 | omega, by first | exact oz_02032f9386 g1 | omega⟩, by omega, hrt⟩) _) hT (pr := [wd_Ker cs hk kr (fun _ => none) kf ka (gKe pq pz tq rq), fm 13 (fRw cs rq RR RM RW RF RA RC), fm 8 (fPp cs pq PV), fo 13 (fTx cs tq TR TO TF TA) ip]) (pcs := [wd_Txp cs hx (TR ip) (fun k => if k = 3 then (some hp1) else none) (TF ip) (TA ip) (fun _ _ => none)]) hw px_X.tt (C := "HomeSystem$TextProcess") (x := ⟨"HomeSystem$AnyProcess", "finish", "(II)V"⟩) (px_recv hT hw 4 0 rfl rfl rfl) m8_89 m8_84 m8_86 m8_85 m8_88 m1_33 rfl q_HomeSystem_AnyProcess_finish ⟨Nat.le_of_ble_eq_true rfl, Nat.le_of_ble_eq_true rfl⟩ hl.1 rfl (Nat.le_of_ble_eq_true rfl) d_Ker_send_8 ⟨show 0 + 0 ≤ (5 * ndS 13 tq + 4 * ndS 13 rq + ndS 13 RM) from (by first | exact oz_9c199dfd7f | omega), show 0 + 0 ≤ (9804 * ndS 13 tq + 342 * ndS 13 rq + 36864 * ndS 13 RM) from (by first | exact oz_54615505fb | omega)⟩) hw hA (fun p54 H locs hp54 hw => ?_)
    obtain ⟨f52, a53, rfl, h62, e56, e57, e58, e59, e60, e61⟩ := hp54
    obtain ⟨lk, ⟨i2, i3⟩, ⟨i4, i5⟩, ⟨i6, i7⟩, i8, ⟨i9, i11⟩, i10, hrt⟩ := h62
    have e56 : (f52 9).toInt = ((TF ip) 9).toInt := e56
    have e57 : (f52 17).toInt = ((TF ip) 17).toInt := e57
    have e58 : (f52 21).toInt = 0 := e58
    have e59 : (f52 15).toInt = ((TF ip) 15).toInt := e59
    have e60 : (f52 20).toInt = ((TF ip) 20).toInt := e60
    have e61 : R_finish_Txp (2 : Int32) (0 : Int32) (TF ip) (TA ip) f52 a53 := e61
    have hw : pw D A s.heap H locs [wd_Ker cs hk kr (fun _ => none) kf ka (gKe pq pz tq rq), fm 13 (fRw cs rq RR RM RW RF RA RC), fm 8 (fPp cs pq PV), fo 13 (fTx cs tq TR TO TF TA) ip, wd_Txp cs hx (TR ip) (fun k => if k = 3 then (some hp1) else none) f52 a53 (fun _ _ => none)] := hw
    refine lv_iconst (v := 1) S.x S.b d_Ker_send_11 (by decide) ?_
    have hw := ftx_in0 (pr := [wd_Ker cs hk kr (fun _ => none) kf ka (gKe pq pz tq rq), fm 13 (fRw cs rq RR RM RW RF RA RC), fm 8 (fPp cs pq PV)]) hw hip hcu.1 hto1
    obtain ⟨TF63, hu_TF63⟩ : ∃ y : Nat → Nat → Int32, y = va_up TF ip f52 := ⟨_, rfl⟩
    obtain ⟨TA64, hu_TA64⟩ : ∃ y : Nat → Nat → Nat → Int32, y = va_up TA ip a53 := ⟨_, rfl⟩
    have hw : pw D A s.heap _ _ [wd_Ker cs hk kr (fun _ => none) kf ka (gKe pq pz tq rq), fm 13 (fRw cs rq RR RM RW RF RA RC), fm 8 (fPp cs pq PV), fm 13 (fTx cs tq TR TO TF63 TA64)] := (by rw [hu_TF63, hu_TA64]; exact hw)
    have hki : KnI pq PV pz tq rq TO TF63 TA64 RW RF := (by rw [hu_TF63, hu_TA64]; exact hki.upT (show TxN ip f52 a53 from ⟨(show TxOk (f52 4) (f52 5) (f52 8) (f52 9) (f52 17) (f52 21) (a53 2) from ⟨(by first | exact lk | exact lk_eq lk (by omega) | exact lk_mk (by omega)), ⟨by omega, by omega⟩, ⟨by omega, by omega⟩, ⟨by omega, by omega⟩, by omega, ⟨by omega, by omega⟩, by omega, hrt⟩), (show ((f52 15).toInt) = ((ip : Nat) : Int) from by omega), (show 0 ≤ (f52 20).toInt ∧ (f52 20).toInt ≤ 3 ∧ ((f52 20).toInt = 0 ∨ 3 * ((ip : Nat) : Int) + (f52 20).toInt ≤ 12) from by omega)⟩))
    have hz21_TF63 : (TF63 ip 21).toInt = (f52 21).toInt := (by rw [hu_TF63, va_up_s]; try rfl)
    have hw : pw D A s.heap _ _ [wd_Ker cs hk kr (fun _ => none) kf ka (gKe pq pz tq rq), fm 13 (fTx cs tq TR TO TF63 TA64), fm 13 (fRw cs rq RR RM RW RF RA RC), fm 8 (fPp cs pq PV)] := hw.sub [0, 3, 1, 2] rfl rfl
    exact pg_iret (v := 1) S hr rfl hlk hAe hw (show 0 ≤ (5 * ndS 13 tq + 4 * ndS 13 rq + ndS 13 RM) from by first | exact oz_86e49526c7 | omega) (show 0 ≤ (9804 * ndS 13 tq + 342 * ndS 13 rq + 36864 * ndS 13 RM) from by first | exact oz_fc3b58e969 | omega) (⟨pz, tq, rq, ka, TR, TO, TF63, TA64, RR, RM, RW, RF, RA, RC, rfl, (show (1 : Int32) = 0 ∨ (1 : Int32) = 1 from by first | exact Or.inl rfl | exact Or.inr rfl | exact z_or (by omega)), (show CuT pq PV tq TO ip hx from hcu), (show KnI pq PV pz tq rq TO TF63 TA64 RW RF from hki), (show RoI ka from hro), (show RmI rq RM from hrm), (show 0 + (5 * ndS 13 tq + 4 * ndS 13 rq + ndS 13 RM) ≤ 5 * ndS 13 tq + 4 * ndS 13 rq + ndS 13 RM from by first | exact oz_9d19b050ad | omega), (show 0 + (9804 * ndS 13 tq + 342 * ndS 13 rq + 36864 * ndS 13 RM) ≤ 9804 * ndS 13 tq + 342 * ndS 13 rq + 36864 * ndS 13 RM from by first | exact oz_b5592d0ae7 | omega)⟩) d_Ker_send_12
set_option maxHeartbeats 4000000 in
set_option maxRecDepth 100000 in
theorem c_k_send_R (l : Launch) (D : va_G) (cs : Nat → ClassId) (hk : Nat) (kr : Nat → Nat) (pq : Nat → Option Nat) (kf : Nat → Int32) (PV : Nat → Pvs) (pz : Nat → Option Nat) (tq : Nat → Option Nat) (rq : Nat → Option Nat) (ka : Nat → Nat → Int32) (TR : Nat → Nat → Nat) (TO : Nat → Option Nat) (TF : Nat → Nat → Int32) (TA : Nat → Nat → Nat → Int32) (RR : Nat → Nat → Nat) (RM : Nat → Option Nat) (RW : Nat → Option Nat) (RF : Nat → Nat → Int32) (RA : Nat → Nat → Nat → Int32) (RC : Nat → Nat → Int32) (p0 p1 : Int32) (ip hx : Nat) (g0 : p0.toInt = -1 ∨ (0 ≤ p0.toInt ∧ p0.toInt ≤ 12 ∧ 0 ≤ p1.toInt ∧ p1.toInt ≤ 25)) (g1 : (RF ip 14).toInt = 1) (hki : KnI pq PV pz tq rq TO TF TA RW RF) (hro : RoI ka) (hrm : RmI rq RM) (hip : ip < 13) (hcu : CuR pq PV rq RW ip hx) : MgI l y_Ker_send b_Ker_send 4 (.boolean) D cs 4 160 ((5 * ndS 13 tq + 4 * ndS 13 rq + ndS 13 RM)) ((9804 * ndS 13 tq + 342 * ndS 13 rq + 36864 * ndS 13 RM)) [.ref hk, .ref hx, .int p0, .int p1] [wd_Ker cs hk kr (fun _ => none) kf ka (gKe pq pz tq rq), fm 13 (fTx cs tq TR TO TF TA), fm 13 (fRw cs rq RR RM RW RF RA RC), fm 8 (fPp cs pq PV)] (fun _ => True) (fun v ps => ∃ (pz' : Nat → Option Nat) (tq' : Nat → Option Nat) (rq' : Nat → Option Nat) (ka' : Nat → Nat → Int32) (TR' : Nat → Nat → Nat) (TO' : Nat → Option Nat) (TF' : Nat → Nat → Int32) (TA' : Nat → Nat → Nat → Int32) (RR' : Nat → Nat → Nat) (RM' : Nat → Option Nat) (RW' : Nat → Option Nat) (RF' : Nat → Nat → Int32) (RA' : Nat → Nat → Nat → Int32) (RC' : Nat → Nat → Int32), (ps.1 = [wd_Ker cs hk kr (fun _ => none) kf ka' (gKe pq pz' tq' rq'), fm 13 (fTx cs tq' TR' TO' TF' TA'), fm 13 (fRw cs rq' RR' RM' RW' RF' RA' RC'), fm 8 (fPp cs pq PV)]) ∧ (v = 0 ∨ v = 1) ∧ (CuR pq PV rq' RW' ip hx) ∧ (KnI pq PV pz' tq' rq' TO' TF' TA' RW' RF') ∧ (RoI ka') ∧ (RmI rq' RM') ∧ (ps.2.1 + (5 * ndS 13 tq' + 4 * ndS 13 rq' + ndS 13 RM') ≤ 5 * ndS 13 tq + 4 * ndS 13 rq + ndS 13 RM) ∧ (ps.2.2 + (9804 * ndS 13 tq' + 342 * ndS 13 rq' + 36864 * ndS 13 RM') ≤ 9804 * ndS 13 tq + 342 * ndS 13 rq + 36864 * ndS 13 RM)) := by
  refine pg_enter (by decide) (Nat.le_of_ble_eq_true rfl) ?_
  intro p e s m below meth c A ls hAe S hr hlk hnm hA hT hX hw hl
  have hl : lv_has ls 4 [(0, .ref hk), (1, .ref hx), (2, .int p0), (3, .int p1)] := hl
  have lp0 := Int32.le_toInt p0
  have up0 := Int32.toInt_lt p0
  have lp1 := Int32.le_toInt p1
  have up1 := Int32.toInt_lt p1
  have cstm1 : ((-1) : Int32).toInt = (-1) := rfl
  have cst0 : (0 : Int32).toInt = 0 := rfl
  have cst1 : (1 : Int32).toInt = 1 := rfl
  have cst2 : (2 : Int32).toInt = 2 := rfl
  have cst4 : (4 : Int32).toInt = 4 := rfl
  refine lv_iload_n S.x S.b d_Ker_send_0 rfl (lv_at hl 2 rfl) ?_
  obtain ⟨j1, hp1, hj1, hjq1, hto1⟩ := hcu.2
  refine lv_iconst (v := (-1)) S.x S.b d_Ker_send_1 (by decide) ?_
  refine lv_icmp_ne (tgt := 13) S.x S.b d_Ker_send_2 (by decide) (fun c2 => ?_) (fun c2 => ?_)
  · have nc2 : ¬ p0.toInt = (-1 : Int) := mt (i_eq (x := p0) (y := (-1))).mpr c2
    refine lv_aload_n S.x S.b d_Ker_send_13 rfl (lv_at hl 0 rfl) ?_
    refine lv_iload_n S.x S.b d_Ker_send_14 rfl (lv_at hl 2 rfl) ?_
    refine px_calli (pr := []) (px_runV (As := [.int p0]) (rest := []) S (c_k_isRunning l D cs hk kr pq pz tq rq kf ka TR TO TF TA RR RM RW RF RA RC PV p0  (show 0 ≤ p0.toInt from by omega) (show p0.toInt ≤ 12 from by omega) hki _) hT (pr := []) (pcs := [wd_Ker cs hk kr (fun _ => none) kf ka (gKe pq pz tq rq), fm 13 (fTx cs tq TR TO TF TA), fm 13 (fRw cs rq RR RM RW RF RA RC), fm 8 (fPp cs pq PV)]) hw px_X.tt (px_recv hT hw 0 0 rfl rfl rfl) m8_154 m8_151 m8_153 ms_6_1 m1_19 q_Ker_isRunning ⟨Nat.le_of_ble_eq_true rfl, Nat.le_of_ble_eq_true rfl⟩ hl.1 rfl (Nat.le_of_ble_eq_true rfl) d_Ker_send_15 ⟨show 0 + 0 ≤ (5 * ndS 13 tq + 4 * ndS 13 rq + ndS 13 RM) from (by first | exact oz_9c199dfd7f | omega), show 0 + 0 ≤ (9804 * ndS 13 tq + 342 * ndS 13 rq + 36864 * ndS 13 RM) from (by first | exact oz_54615505fb | omega)⟩) hw hA (fun v5 p4 H locs hp4 hw => ?_)
    obtain ⟨rfl, e6, e7⟩ := hp4
    have e6 := z_rng e6
    have e7 : NnP pz p0 v5 := e7
    have hw : pw D A s.heap H locs [wd_Ker cs hk kr (fun _ => none) kf ka (gKe pq pz tq rq), fm 13 (fTx cs tq TR TO TF TA), fm 13 (fRw cs rq RR RM RW RF RA RC), fm 8 (fPp cs pq PV)] := hw
    have lv5 := Int32.le_toInt v5
    have uv5 := Int32.toInt_lt v5
    refine lv_if_eq (tgt := 71) S.x S.b d_Ker_send_18 (by decide) (fun c8 => ?_) (fun c8 => ?_)
    · have nc8 : v5.toInt = (0 : Int) := (i_eq (x := v5) (y := 0)).mp c8
      refine lv_aload_n S.x S.b d_Ker_send_71 rfl (lv_at hl 1 rfl) ?_
      refine lv_iconst (v := 0) S.x S.b d_Ker_send_72 (by decide) ?_
      have hw : pw D A s.heap _ _ [wd_Ker cs hk kr (fun _ => none) kf ka (gKe pq pz tq rq), fm 13 (fTx cs tq TR TO TF TA), fm 8 (fPp cs pq PV), fm 13 (fRw cs rq RR RM RW RF RA RC)] := hw.sub [0, 1, 3, 2] rfl rfl
      have hw : pw D A s.heap _ _ [wd_Ker cs hk kr (fun _ => none) kf ka (gKe pq pz tq rq), fm 13 (fTx cs tq TR TO TF TA), fm 8 (fPp cs pq PV), fo 13 (fRw cs rq RR RM RW RF RA RC) ip, wd_Raw cs hx (RR ip) (fun k => if k = 2 then (RM ip) else if k = 4 then (some ((PV j1).r 1)) else none) (RF ip) (RA ip) (fun _ _ => none), nA cs (RM ip) 36864 (RC ip)] := frw_out (pr := [wd_Ker cs hk kr (fun _ => none) kf ka (gKe pq pz tq rq), fm 13 (fTx cs tq TR TO TF TA), fm 8 (fPp cs pq PV)]) hw hip hcu.1 hto1
      have hng10 := ndS_ge 13 RM ip hip
      have hrn10 : RwN ip (RF ip) := hki.2.2.1 ip hip _ hcu.1
      have hro10 := hrn10.1
      unfold RwO at hro10
      have hid10 := hrn10.2.1
      have hch10 := hrn10.2.2
      unfold KcI at hch10
      have hw : pw D A s.heap _ _ [wd_Ker cs hk kr (fun _ => none) kf ka (gKe pq pz tq rq), fm 13 (fTx cs tq TR TO TF TA), fm 8 (fPp cs pq PV), fo 13 (fRw cs rq RR RM RW RF RA RC) ip, nA cs (RM ip) 36864 (RC ip), wd_Raw cs hx (RR ip) (fun k => if k = 2 then (RM ip) else if k = 4 then (some ((PV j1).r 1)) else none) (RF ip) (RA ip) (fun _ _ => none)] := hw.sub [0, 1, 2, 3, 5, 4] rfl rfl
      refine px_callv (pr := [wd_Ker cs hk kr (fun _ => none) kf ka (gKe pq pz tq rq), fm 13 (fTx cs tq TR TO TF TA), fm 8 (fPp cs pq PV), fo 13 (fRw cs rq RR RM RW RF RA RC) ip, nA cs (RM ip) 36864 (RC ip)]) (px_runA (As := [.int 0]) (rest := []) S (c_Raw_answer l D cs hx (RR ip) (fun _ _ => none) (RM ip) (some ((PV j1).r 1)) (RF ip) (RA ip) 0  (show 1 ≤ ((RF ip) 7).toInt from by omega) _) hT (pr := [wd_Ker cs hk kr (fun _ => none) kf ka (gKe pq pz tq rq), fm 13 (fTx cs tq TR TO TF TA), fm 8 (fPp cs pq PV), fo 13 (fRw cs rq RR RM RW RF RA RC) ip, nA cs (RM ip) 36864 (RC ip)]) (pcs := [wd_Raw cs hx (RR ip) (fun k => if k = 2 then (RM ip) else if k = 4 then (some ((PV j1).r 1)) else none) (RF ip) (RA ip) (fun _ _ => none)]) hw px_X.tt (C := "HomeSystem$RawProcess") (owner := "HomeSystem$AnyProcess") (x := ⟨"HomeSystem$AnyProcess", "answer", "(I)V"⟩) (px_recv hT hw 5 0 rfl rfl rfl) m8_72 m8_67 m8_69 m8_71 m8_70 m1_34 m8_68n ⟨by decide, by decide⟩ rfl q_Raw_answer ⟨Nat.le_of_ble_eq_true rfl, Nat.le_of_ble_eq_true rfl⟩ hl.1 rfl (Nat.le_of_ble_eq_true rfl) d_Ker_send_73 ⟨show 0 + 0 ≤ (5 * ndS 13 tq + 4 * ndS 13 rq + ndS 13 RM) from (by first | exact oz_9c199dfd7f | omega), show 0 + 0 ≤ (9804 * ndS 13 tq + 342 * ndS 13 rq + 36864 * ndS 13 RM) from (by first | exact oz_54615505fb | omega)⟩) hw hA (fun p13 H locs hp13 hw => ?_)
      obtain ⟨f11, a12, rfl, e15, e16, e17, e18, e19, e20⟩ := hp13
      have e15 : (f11 7).toInt = ((RF ip) 7).toInt - 1 := e15
      have e16 : (f11 8).toInt = ((RF ip) 8).toInt := e16
      have e17 : (f11 10).toInt = ((RF ip) 10).toInt := e17
      have e18 : (f11 13).toInt = ((RF ip) 13).toInt := e18
      have e19 : (f11 14).toInt = 0 := e19
      have e20 : (f11 11).toInt = ((RF ip) 11).toInt := e20
      have hw : pw D A s.heap H locs [wd_Ker cs hk kr (fun _ => none) kf ka (gKe pq pz tq rq), fm 13 (fTx cs tq TR TO TF TA), fm 8 (fPp cs pq PV), fo 13 (fRw cs rq RR RM RW RF RA RC) ip, nA cs (RM ip) 36864 (RC ip), wd_Raw cs hx (RR ip) (fun k => if k = 2 then (RM ip) else if k = 4 then (some ((PV j1).r 1)) else none) f11 a12 (fun _ _ => none)] := hw
      refine lv_iconst (v := 1) S.x S.b d_Ker_send_76 (by decide) ?_
      have hw : pw D A s.heap _ _ [wd_Ker cs hk kr (fun _ => none) kf ka (gKe pq pz tq rq), fm 13 (fTx cs tq TR TO TF TA), fm 8 (fPp cs pq PV), fo 13 (fRw cs rq RR RM RW RF RA RC) ip, wd_Raw cs hx (RR ip) (fun k => if k = 2 then (RM ip) else if k = 4 then (some ((PV j1).r 1)) else none) f11 a12 (fun _ _ => none), nA cs (RM ip) 36864 (RC ip)] := hw.sub [0, 1, 2, 3, 5, 4] rfl rfl
      have hw := frw_in0 (pr := [wd_Ker cs hk kr (fun _ => none) kf ka (gKe pq pz tq rq), fm 13 (fTx cs tq TR TO TF TA), fm 8 (fPp cs pq PV)]) hw hip hcu.1 hto1
      obtain ⟨RM21, hu_RM21⟩ : ∃ y : Nat → Option Nat, y = va_up RM ip (RM ip) := ⟨_, rfl⟩
      obtain ⟨RF22, hu_RF22⟩ : ∃ y : Nat → Nat → Int32, y = va_up RF ip f11 := ⟨_, rfl⟩
      obtain ⟨RA23, hu_RA23⟩ : ∃ y : Nat → Nat → Nat → Int32, y = va_up RA ip a12 := ⟨_, rfl⟩
      obtain ⟨RC24, hu_RC24⟩ : ∃ y : Nat → Nat → Int32, y = va_up RC ip (RC ip) := ⟨_, rfl⟩
      have hw : pw D A s.heap _ _ [wd_Ker cs hk kr (fun _ => none) kf ka (gKe pq pz tq rq), fm 13 (fTx cs tq TR TO TF TA), fm 8 (fPp cs pq PV), fm 13 (fRw cs rq RR RM21 RW RF22 RA23 RC24)] := (by rw [hu_RM21, hu_RF22, hu_RA23, hu_RC24]; exact hw)
      have hki : KnI pq PV pz tq rq TO TF TA RW RF22 := (by rw [hu_RF22]; exact hki.upR (show RwN ip f11 from ⟨(show (0 ≤ (f11 7).toInt ∧ (f11 7).toInt ≤ 1600) ∧ (0 ≤ (f11 10).toInt ∧ (f11 10).toInt + (f11 7).toInt ≤ 1600) ∧ ((f11 14).toInt = 0 ∨ (f11 14).toInt = 1) ∧ ((f11 14).toInt = 1 → 1 ≤ (f11 7).toInt) from by omega), (show ((f11 8).toInt) = ((ip : Nat) : Int) from by omega), (show 0 ≤ (f11 13).toInt ∧ (f11 13).toInt ≤ 3 ∧ ((f11 13).toInt = 0 ∨ 3 * ((ip : Nat) : Int) + (f11 13).toInt ≤ 12) from by omega)⟩))
      have hrm : RmI rq RM21 := (by rw [hu_RM21]; exact hrm.up hcu.1)
      have hnd_RM21 := ndS_up 13 RM ip (RM ip) hip; rw [← hu_RM21] at hnd_RM21
      have hz14_RF22 : (RF22 ip 14).toInt = (f11 14).toInt := (by rw [hu_RF22, va_up_s]; try rfl)
      have hw : pw D A s.heap _ _ [wd_Ker cs hk kr (fun _ => none) kf ka (gKe pq pz tq rq), fm 13 (fTx cs tq TR TO TF TA), fm 13 (fRw cs rq RR RM21 RW RF22 RA23 RC24), fm 8 (fPp cs pq PV)] := hw.sub [0, 1, 3, 2] rfl rfl
      exact pg_iret (v := 1) S hr rfl hlk hAe hw (show 0 ≤ (5 * ndS 13 tq + 4 * ndS 13 rq + ndS 13 RM) from by first | exact oz_86e49526c7 | omega) (show 0 ≤ (9804 * ndS 13 tq + 342 * ndS 13 rq + 36864 * ndS 13 RM) from by first | exact oz_fc3b58e969 | omega) (⟨pz, tq, rq, ka, TR, TO, TF, TA, RR, RM21, RW, RF22, RA23, RC24, rfl, (show (1 : Int32) = 0 ∨ (1 : Int32) = 1 from by first | exact Or.inl rfl | exact Or.inr rfl | exact z_or (by omega)), (show CuR pq PV rq RW ip hx from hcu), (show KnI pq PV pz tq rq TO TF TA RW RF22 from hki), (show RoI ka from hro), (show RmI rq RM21 from hrm), (show 0 + (5 * ndS 13 tq + 4 * ndS 13 rq + ndS 13 RM21) ≤ 5 * ndS 13 tq + 4 * ndS 13 rq + ndS 13 RM from by omega), (show 0 + (9804 * ndS 13 tq + 342 * ndS 13 rq + 36864 * ndS 13 RM21) ≤ 9804 * ndS 13 tq + 342 * ndS 13 rq + 36864 * ndS 13 RM from by omega)⟩) d_Ker_send_77
    · have nc8 : ¬ v5.toInt = (0 : Int) := mt (i_eq (x := v5) (y := 0)).mpr c8
      refine lv_aload_n S.x S.b d_Ker_send_21 rfl (lv_at hl 0 rfl) ?_
      refine px_get S k_Ker hT hw 0 0 7 (v := .ref (kr 7)) rfl rfl rfl (by decide) m2_228 d_Ker_send_22 ?_
      refine lv_iload_n S.x S.b d_Ker_send_25 rfl (lv_at hl 3 rfl) ?_
      refine px_iald S hT hw 0 8 (n := 26) (f := (ka 7)) rfl (ga_Ker_7 _ _ _ _ _ _ _) (x := p1) (vp_in_iff.mpr (by constructor <;> omega)) d_Ker_send_26 ?_
      refine lv_topi (fun z25 ez25 => ?_)
      have lz25 := Int32.le_toInt z25
      have uz25 := Int32.toInt_lt z25
      have qz25 := hro.at7 (x := p1) (by omega) (by omega) ez25
      refine lv_iconst (v := 4) S.x S.b d_Ker_send_27 (by decide) ?_
      refine lv_icmp_ne (tgt := 33) S.x S.b d_Ker_send_28 (by decide) (fun c26 => ?_) (fun c26 => ?_)
      · have nc26 : ¬ z25.toInt = (4 : Int) := mt (i_eq (x := z25) (y := 4)).mpr c26
        refine lv_aload_n S.x S.b d_Ker_send_33 rfl (lv_at hl 0 rfl) ?_
        refine px_get S k_Ker hT hw 0 0 5 (v := .ref (kr 5)) rfl rfl rfl (by decide) m2_226 d_Ker_send_34 ?_
        refine lv_iconst (v := 4) S.x S.b d_Ker_send_37 (by decide) ?_
        refine lv_iload_n S.x S.b d_Ker_send_38 rfl (lv_at hl 3 rfl) ?_
        refine lv_imul S.x S.b d_Ker_send_39 ?_
        refine lv_topi (fun z28 ez28 => ?_)
        have lz28 := Int32.le_toInt z28
        have uz28 := Int32.toInt_lt z28
        have tz28 : -2147483648 ≤ 4 * p1.toInt → 4 * p1.toInt < 2147483648 → z28.toInt = 4 * p1.toInt := by rw [ez28]; exact i_mulc 4 p1 (by decide)
        try replace tz28 : z28.toInt = 4 * p1.toInt := by omega
        refine lv_aload_n S.x S.b d_Ker_send_40 rfl (lv_at hl 0 rfl) ?_
        refine px_get S k_Ker hT hw 0 0 6 (v := .ref (kr 6)) rfl rfl rfl (by decide) m2_227 d_Ker_send_41 ?_
        refine lv_iload_n S.x S.b d_Ker_send_44 rfl (lv_at hl 3 rfl) ?_
        refine px_iald S hT hw 0 7 (n := 26) (f := (ka 6)) rfl (ga_Ker_6 _ _ _ _ _ _ _) (x := p1) (vp_in_iff.mpr (by constructor <;> omega)) d_Ker_send_45 ?_
        refine lv_topi (fun z29 ez29 => ?_)
        have lz29 := Int32.le_toInt z29
        have uz29 := Int32.toInt_lt z29
        have qz29 := hro.at6 (x := p1) (by omega) (by omega) ez29
        refine lv_aload_n S.x S.b d_Ker_send_46 rfl (lv_at hl 0 rfl) ?_
        refine px_get S k_Ker hT hw 0 0 7 (v := .ref (kr 7)) rfl rfl rfl (by decide) m2_228 d_Ker_send_47 ?_
        refine lv_iload_n S.x S.b d_Ker_send_50 rfl (lv_at hl 3 rfl) ?_
        refine px_iald S hT hw 0 8 (n := 26) (f := (ka 7)) rfl (ga_Ker_7 _ _ _ _ _ _ _) (x := p1) (vp_in_iff.mpr (by constructor <;> omega)) d_Ker_send_51 ?_
        refine lv_topi (fun z30 ez30 => ?_)
        have lz30 := Int32.le_toInt z30
        have uz30 := Int32.toInt_lt z30
        have qz30 := hro.at7 (x := p1) (by omega) (by omega) ez30
        refine lv_iadd S.x S.b d_Ker_send_52 ?_
        refine lv_topi (fun z31 ez31 => ?_)
        have tz31 : z31.toInt = (z29.toInt + z30.toInt + 2147483648) % 4294967296 - 2147483648 := by rw [ez31]; exact i_add z29 z30
        have lz31 := Int32.le_toInt z31
        have uz31 := Int32.toInt_lt z31
        try replace tz31 : z31.toInt = z29.toInt + z30.toInt := by omega
        refine lv_iconst (v := 4) S.x S.b d_Ker_send_53 (by decide) ?_
        refine lv_irem S.x S.b d_Ker_send_54 (by decide) ?_
        refine lv_topi (fun z32 ez32 => ?_)
        have lz32 := Int32.le_toInt z32
        have uz32 := Int32.toInt_lt z32
        have tz32 : 0 ≤ z31.toInt → z32.toInt = z31.toInt % 4 := (by intro h9; rw [ez32]; exact i_irem9 h9 (y := 4) (d := 4) (by decide) (by decide))
        try replace tz32 := tz32 (by omega)
        refine lv_iadd S.x S.b d_Ker_send_55 ?_
        refine lv_topi (fun z33 ez33 => ?_)
        have tz33 : z33.toInt = (z28.toInt + z32.toInt + 2147483648) % 4294967296 - 2147483648 := by rw [ez33]; exact i_add z28 z32
        have lz33 := Int32.le_toInt z33
        have uz33 := Int32.toInt_lt z33
        try replace tz33 : z33.toInt = z28.toInt + z32.toInt := by omega
        refine lv_aload_n S.x S.b d_Ker_send_56 rfl (lv_at hl 1 rfl) ?_
        have hw : pw D A s.heap _ _ [wd_Ker cs hk kr (fun _ => none) kf ka (gKe pq pz tq rq), fm 13 (fTx cs tq TR TO TF TA), fm 8 (fPp cs pq PV), fm 13 (fRw cs rq RR RM RW RF RA RC)] := hw.sub [0, 1, 3, 2] rfl rfl
        have hw : pw D A s.heap _ _ [wd_Ker cs hk kr (fun _ => none) kf ka (gKe pq pz tq rq), fm 13 (fTx cs tq TR TO TF TA), fm 8 (fPp cs pq PV), fo 13 (fRw cs rq RR RM RW RF RA RC) ip, wd_Raw cs hx (RR ip) (fun k => if k = 2 then (RM ip) else if k = 4 then (some ((PV j1).r 1)) else none) (RF ip) (RA ip) (fun _ _ => none), nA cs (RM ip) 36864 (RC ip)] := frw_out (pr := [wd_Ker cs hk kr (fun _ => none) kf ka (gKe pq pz tq rq), fm 13 (fTx cs tq TR TO TF TA), fm 8 (fPp cs pq PV)]) hw hip hcu.1 hto1
        have hng34 := ndS_ge 13 RM ip hip
        have hrn34 : RwN ip (RF ip) := hki.2.2.1 ip hip _ hcu.1
        have hro34 := hrn34.1
        unfold RwO at hro34
        have hid34 := hrn34.2.1
        have hch34 := hrn34.2.2
        unfold KcI at hch34
        refine px_get S k_Raw hT hw 4 0 17 (v := .int ((RF ip) 17)) rfl rfl rfl (by decide) m6_166 d_Ker_send_57 ?_
        refine px_iast S hT hw 0 6 (n := 104) (f := (ka 5)) (x := z33) (y := ((RF ip) 17)) rfl (ga_Ker_5 _ _ _ _ _ _ _) (vp_in_iff.mpr (by constructor <;> omega)) d_Ker_send_60 (w' := wd_Ker cs hk kr (fun _ => none) kf (va_up ka 5 (upd (ka 5) z33.toNatClampNeg ((RF ip) 17))) (gKe pq pz tq rq)) (ps' := [wd_Ker cs hk kr (fun _ => none) kf (va_up ka 5 (upd (ka 5) z33.toNatClampNeg ((RF ip) 17))) (gKe pq pz tq rq), fm 13 (fTx cs tq TR TO TF TA), fm 8 (fPp cs pq PV), fo 13 (fRw cs rq RR RM RW RF RA RC) ip, wd_Raw cs hx (RR ip) (fun k => if k = 2 then (RM ip) else if k = 4 then (some ((PV j1).r 1)) else none) (RF ip) (RA ip) (fun _ _ => none), nA cs (RM ip) 36864 (RC ip)]) (sa_Ker_5 _ _ _ _ _ _ _ _) rfl (fun H locs hw => ?_)
        have hro : RoI (va_up ka 5 (upd (ka 5) z33.toNatClampNeg ((RF ip) 17))) := hro.oth (by decide) (by decide)
        refine lv_aload_n S.x S.b d_Ker_send_61 rfl (lv_at hl 0 rfl) ?_
        refine px_get S k_Ker hT hw 0 0 7 (v := .ref (kr 7)) rfl rfl rfl (by decide) m2_228 d_Ker_send_62 ?_
        refine lv_iload_n S.x S.b d_Ker_send_65 rfl (lv_at hl 3 rfl) ?_
        refine lv_dup2_11 S.x S.b d_Ker_send_66 rfl rfl ?_
        refine px_iald S hT hw 0 8 (n := 26) (f := ((va_up ka 5 (upd (ka 5) z33.toNatClampNeg ((RF ip) 17))) 7)) rfl (ga_Ker_7 _ _ _ _ _ _ _) (x := p1) (vp_in_iff.mpr (by constructor <;> omega)) d_Ker_send_67 ?_
        refine lv_topi (fun z35 ez35 => ?_)
        have lz35 := Int32.le_toInt z35
        have uz35 := Int32.toInt_lt z35
        have qz35 := hro.at7 (x := p1) (by omega) (by omega) ez35
        have hlnk : z35.toInt = z25.toInt := (by rw [ez35, ez25, va_up_n (by decide)])
        refine lv_iconst (v := 1) S.x S.b d_Ker_send_68 (by decide) ?_
        refine lv_iadd S.x S.b d_Ker_send_69 ?_
        refine lv_topi (fun z36 ez36 => ?_)
        have tz36 : z36.toInt = (z35.toInt + (1 : Int) + 2147483648) % 4294967296 - 2147483648 := by rw [ez36]; exact i_add z35 1
        have lz36 := Int32.le_toInt z36
        have uz36 := Int32.toInt_lt z36
        try replace tz36 : z36.toInt = z35.toInt + (1 : Int) := by omega
        refine px_iast S hT hw 0 8 (n := 26) (f := ((va_up ka 5 (upd (ka 5) z33.toNatClampNeg ((RF ip) 17))) 7)) (x := p1) (y := z36) rfl (ga_Ker_7 _ _ _ _ _ _ _) (vp_in_iff.mpr (by constructor <;> omega)) d_Ker_send_70 (w' := wd_Ker cs hk kr (fun _ => none) kf (va_up (va_up ka 5 (upd (ka 5) z33.toNatClampNeg ((RF ip) 17))) 7 (upd ((va_up ka 5 (upd (ka 5) z33.toNatClampNeg ((RF ip) 17))) 7) p1.toNatClampNeg z36)) (gKe pq pz tq rq)) (ps' := [wd_Ker cs hk kr (fun _ => none) kf (va_up (va_up ka 5 (upd (ka 5) z33.toNatClampNeg ((RF ip) 17))) 7 (upd ((va_up ka 5 (upd (ka 5) z33.toNatClampNeg ((RF ip) 17))) 7) p1.toNatClampNeg z36)) (gKe pq pz tq rq), fm 13 (fTx cs tq TR TO TF TA), fm 8 (fPp cs pq PV), fo 13 (fRw cs rq RR RM RW RF RA RC) ip, wd_Raw cs hx (RR ip) (fun k => if k = 2 then (RM ip) else if k = 4 then (some ((PV j1).r 1)) else none) (RF ip) (RA ip) (fun _ _ => none), nA cs (RM ip) 36864 (RC ip)]) (sa_Ker_7 _ _ _ _ _ _ _ _) rfl (fun H locs hw => ?_)
        have hro : RoI (va_up (va_up ka 5 (upd (ka 5) z33.toNatClampNeg ((RF ip) 17))) 7 (upd ((va_up ka 5 (upd (ka 5) z33.toNatClampNeg ((RF ip) 17))) 7) p1.toNatClampNeg z36)) := hro.up7 (by omega) (by omega)
        refine lv_aload_n S.x S.b d_Ker_send_71 rfl (lv_at hl 1 rfl) ?_
        refine lv_iconst (v := 0) S.x S.b d_Ker_send_72 (by decide) ?_
        have hw : pw D A s.heap _ _ [wd_Ker cs hk kr (fun _ => none) kf (va_up (va_up ka 5 (upd (ka 5) z33.toNatClampNeg ((RF ip) 17))) 7 (upd ((va_up ka 5 (upd (ka 5) z33.toNatClampNeg ((RF ip) 17))) 7) p1.toNatClampNeg z36)) (gKe pq pz tq rq), fm 13 (fTx cs tq TR TO TF TA), fm 8 (fPp cs pq PV), fo 13 (fRw cs rq RR RM RW RF RA RC) ip, nA cs (RM ip) 36864 (RC ip), wd_Raw cs hx (RR ip) (fun k => if k = 2 then (RM ip) else if k = 4 then (some ((PV j1).r 1)) else none) (RF ip) (RA ip) (fun _ _ => none)] := hw.sub [0, 1, 2, 3, 5, 4] rfl rfl
        refine px_callv (pr := [wd_Ker cs hk kr (fun _ => none) kf (va_up (va_up ka 5 (upd (ka 5) z33.toNatClampNeg ((RF ip) 17))) 7 (upd ((va_up ka 5 (upd (ka 5) z33.toNatClampNeg ((RF ip) 17))) 7) p1.toNatClampNeg z36)) (gKe pq pz tq rq), fm 13 (fTx cs tq TR TO TF TA), fm 8 (fPp cs pq PV), fo 13 (fRw cs rq RR RM RW RF RA RC) ip, nA cs (RM ip) 36864 (RC ip)]) (px_runA (As := [.int 0]) (rest := []) S (c_Raw_answer l D cs hx (RR ip) (fun _ _ => none) (RM ip) (some ((PV j1).r 1)) (RF ip) (RA ip) 0  (show 1 ≤ ((RF ip) 7).toInt from by omega) _) hT (pr := [wd_Ker cs hk kr (fun _ => none) kf (va_up (va_up ka 5 (upd (ka 5) z33.toNatClampNeg ((RF ip) 17))) 7 (upd ((va_up ka 5 (upd (ka 5) z33.toNatClampNeg ((RF ip) 17))) 7) p1.toNatClampNeg z36)) (gKe pq pz tq rq), fm 13 (fTx cs tq TR TO TF TA), fm 8 (fPp cs pq PV), fo 13 (fRw cs rq RR RM RW RF RA RC) ip, nA cs (RM ip) 36864 (RC ip)]) (pcs := [wd_Raw cs hx (RR ip) (fun k => if k = 2 then (RM ip) else if k = 4 then (some ((PV j1).r 1)) else none) (RF ip) (RA ip) (fun _ _ => none)]) hw px_X.tt (C := "HomeSystem$RawProcess") (owner := "HomeSystem$AnyProcess") (x := ⟨"HomeSystem$AnyProcess", "answer", "(I)V"⟩) (px_recv hT hw 5 0 rfl rfl rfl) m8_72 m8_67 m8_69 m8_71 m8_70 m1_34 m8_68n ⟨by decide, by decide⟩ rfl q_Raw_answer ⟨Nat.le_of_ble_eq_true rfl, Nat.le_of_ble_eq_true rfl⟩ hl.1 rfl (Nat.le_of_ble_eq_true rfl) d_Ker_send_73 ⟨show 0 + 0 ≤ (5 * ndS 13 tq + 4 * ndS 13 rq + ndS 13 RM) from (by first | exact oz_9c199dfd7f | omega), show 0 + 0 ≤ (9804 * ndS 13 tq + 342 * ndS 13 rq + 36864 * ndS 13 RM) from (by first | exact oz_54615505fb | omega)⟩) hw hA (fun p39 H locs hp39 hw => ?_)
        obtain ⟨f37, a38, rfl, e41, e42, e43, e44, e45, e46⟩ := hp39
        have e41 : (f37 7).toInt = ((RF ip) 7).toInt - 1 := e41
        have e42 : (f37 8).toInt = ((RF ip) 8).toInt := e42
        have e43 : (f37 10).toInt = ((RF ip) 10).toInt := e43
        have e44 : (f37 13).toInt = ((RF ip) 13).toInt := e44
        have e45 : (f37 14).toInt = 0 := e45
        have e46 : (f37 11).toInt = ((RF ip) 11).toInt := e46
        have hw : pw D A s.heap H locs [wd_Ker cs hk kr (fun _ => none) kf (va_up (va_up ka 5 (upd (ka 5) z33.toNatClampNeg ((RF ip) 17))) 7 (upd ((va_up ka 5 (upd (ka 5) z33.toNatClampNeg ((RF ip) 17))) 7) p1.toNatClampNeg z36)) (gKe pq pz tq rq), fm 13 (fTx cs tq TR TO TF TA), fm 8 (fPp cs pq PV), fo 13 (fRw cs rq RR RM RW RF RA RC) ip, nA cs (RM ip) 36864 (RC ip), wd_Raw cs hx (RR ip) (fun k => if k = 2 then (RM ip) else if k = 4 then (some ((PV j1).r 1)) else none) f37 a38 (fun _ _ => none)] := hw
        refine lv_iconst (v := 1) S.x S.b d_Ker_send_76 (by decide) ?_
        have hw : pw D A s.heap _ _ [wd_Ker cs hk kr (fun _ => none) kf (va_up (va_up ka 5 (upd (ka 5) z33.toNatClampNeg ((RF ip) 17))) 7 (upd ((va_up ka 5 (upd (ka 5) z33.toNatClampNeg ((RF ip) 17))) 7) p1.toNatClampNeg z36)) (gKe pq pz tq rq), fm 13 (fTx cs tq TR TO TF TA), fm 8 (fPp cs pq PV), fo 13 (fRw cs rq RR RM RW RF RA RC) ip, wd_Raw cs hx (RR ip) (fun k => if k = 2 then (RM ip) else if k = 4 then (some ((PV j1).r 1)) else none) f37 a38 (fun _ _ => none), nA cs (RM ip) 36864 (RC ip)] := hw.sub [0, 1, 2, 3, 5, 4] rfl rfl
        have hw := frw_in0 (pr := [wd_Ker cs hk kr (fun _ => none) kf (va_up (va_up ka 5 (upd (ka 5) z33.toNatClampNeg ((RF ip) 17))) 7 (upd ((va_up ka 5 (upd (ka 5) z33.toNatClampNeg ((RF ip) 17))) 7) p1.toNatClampNeg z36)) (gKe pq pz tq rq), fm 13 (fTx cs tq TR TO TF TA), fm 8 (fPp cs pq PV)]) hw hip hcu.1 hto1
        obtain ⟨RM47, hu_RM47⟩ : ∃ y : Nat → Option Nat, y = va_up RM ip (RM ip) := ⟨_, rfl⟩
        obtain ⟨RF48, hu_RF48⟩ : ∃ y : Nat → Nat → Int32, y = va_up RF ip f37 := ⟨_, rfl⟩
        obtain ⟨RA49, hu_RA49⟩ : ∃ y : Nat → Nat → Nat → Int32, y = va_up RA ip a38 := ⟨_, rfl⟩
        obtain ⟨RC50, hu_RC50⟩ : ∃ y : Nat → Nat → Int32, y = va_up RC ip (RC ip) := ⟨_, rfl⟩
        have hw : pw D A s.heap _ _ [wd_Ker cs hk kr (fun _ => none) kf (va_up (va_up ka 5 (upd (ka 5) z33.toNatClampNeg ((RF ip) 17))) 7 (upd ((va_up ka 5 (upd (ka 5) z33.toNatClampNeg ((RF ip) 17))) 7) p1.toNatClampNeg z36)) (gKe pq pz tq rq), fm 13 (fTx cs tq TR TO TF TA), fm 8 (fPp cs pq PV), fm 13 (fRw cs rq RR RM47 RW RF48 RA49 RC50)] := (by rw [hu_RM47, hu_RF48, hu_RA49, hu_RC50]; exact hw)
        have hki : KnI pq PV pz tq rq TO TF TA RW RF48 := (by rw [hu_RF48]; exact hki.upR (show RwN ip f37 from ⟨(show (0 ≤ (f37 7).toInt ∧ (f37 7).toInt ≤ 1600) ∧ (0 ≤ (f37 10).toInt ∧ (f37 10).toInt + (f37 7).toInt ≤ 1600) ∧ ((f37 14).toInt = 0 ∨ (f37 14).toInt = 1) ∧ ((f37 14).toInt = 1 → 1 ≤ (f37 7).toInt) from by omega), (show ((f37 8).toInt) = ((ip : Nat) : Int) from by omega), (show 0 ≤ (f37 13).toInt ∧ (f37 13).toInt ≤ 3 ∧ ((f37 13).toInt = 0 ∨ 3 * ((ip : Nat) : Int) + (f37 13).toInt ≤ 12) from by omega)⟩))
        have hrm : RmI rq RM47 := (by rw [hu_RM47]; exact hrm.up hcu.1)
        have hnd_RM47 := ndS_up 13 RM ip (RM ip) hip; rw [← hu_RM47] at hnd_RM47
        have hz14_RF48 : (RF48 ip 14).toInt = (f37 14).toInt := (by rw [hu_RF48, va_up_s]; try rfl)
        have hw : pw D A s.heap _ _ [wd_Ker cs hk kr (fun _ => none) kf (va_up (va_up ka 5 (upd (ka 5) z33.toNatClampNeg ((RF ip) 17))) 7 (upd ((va_up ka 5 (upd (ka 5) z33.toNatClampNeg ((RF ip) 17))) 7) p1.toNatClampNeg z36)) (gKe pq pz tq rq), fm 13 (fTx cs tq TR TO TF TA), fm 13 (fRw cs rq RR RM47 RW RF48 RA49 RC50), fm 8 (fPp cs pq PV)] := hw.sub [0, 1, 3, 2] rfl rfl
        exact pg_iret (v := 1) S hr rfl hlk hAe hw (show 0 ≤ (5 * ndS 13 tq + 4 * ndS 13 rq + ndS 13 RM) from by first | exact oz_86e49526c7 | omega) (show 0 ≤ (9804 * ndS 13 tq + 342 * ndS 13 rq + 36864 * ndS 13 RM) from by first | exact oz_fc3b58e969 | omega) (⟨pz, tq, rq, (va_up (va_up ka 5 (upd (ka 5) z33.toNatClampNeg ((RF ip) 17))) 7 (upd ((va_up ka 5 (upd (ka 5) z33.toNatClampNeg ((RF ip) 17))) 7) p1.toNatClampNeg z36)), TR, TO, TF, TA, RR, RM47, RW, RF48, RA49, RC50, rfl, (show (1 : Int32) = 0 ∨ (1 : Int32) = 1 from by first | exact Or.inl rfl | exact Or.inr rfl | exact z_or (by omega)), (show CuR pq PV rq RW ip hx from hcu), (show KnI pq PV pz tq rq TO TF TA RW RF48 from hki), (show RoI (va_up (va_up ka 5 (upd (ka 5) z33.toNatClampNeg ((RF ip) 17))) 7 (upd ((va_up ka 5 (upd (ka 5) z33.toNatClampNeg ((RF ip) 17))) 7) p1.toNatClampNeg z36)) from hro), (show RmI rq RM47 from hrm), (show 0 + (5 * ndS 13 tq + 4 * ndS 13 rq + ndS 13 RM47) ≤ 5 * ndS 13 tq + 4 * ndS 13 rq + ndS 13 RM from by omega), (show 0 + (9804 * ndS 13 tq + 342 * ndS 13 rq + 36864 * ndS 13 RM47) ≤ 9804 * ndS 13 tq + 342 * ndS 13 rq + 36864 * ndS 13 RM from by omega)⟩) d_Ker_send_77
      · have nc26 : z25.toInt = (4 : Int) := (i_eq (x := z25) (y := 4)).mp c26
        refine lv_iconst (v := 0) S.x S.b d_Ker_send_31 (by decide) ?_
        exact pg_iret (v := 0) S hr rfl hlk hAe hw (show 0 ≤ (5 * ndS 13 tq + 4 * ndS 13 rq + ndS 13 RM) from by first | exact oz_86e49526c7 | omega) (show 0 ≤ (9804 * ndS 13 tq + 342 * ndS 13 rq + 36864 * ndS 13 RM) from by first | exact oz_fc3b58e969 | omega) (⟨pz, tq, rq, ka, TR, TO, TF, TA, RR, RM, RW, RF, RA, RC, rfl, (show (0 : Int32) = 0 ∨ (0 : Int32) = 1 from by first | exact Or.inl rfl | exact Or.inr rfl | exact z_or (by omega)), (show CuR pq PV rq RW ip hx from hcu), (show KnI pq PV pz tq rq TO TF TA RW RF from hki), (show RoI ka from hro), (show RmI rq RM from hrm), (show 0 + (5 * ndS 13 tq + 4 * ndS 13 rq + ndS 13 RM) ≤ 5 * ndS 13 tq + 4 * ndS 13 rq + ndS 13 RM from by first | exact oz_9d19b050ad | omega), (show 0 + (9804 * ndS 13 tq + 342 * ndS 13 rq + 36864 * ndS 13 RM) ≤ 9804 * ndS 13 tq + 342 * ndS 13 rq + 36864 * ndS 13 RM from by first | exact oz_b5592d0ae7 | omega)⟩) d_Ker_send_32
  · have nc2 : p0.toInt = (-1 : Int) := (i_eq (x := p0) (y := (-1))).mp c2
    refine lv_aload_n S.x S.b d_Ker_send_5 rfl (lv_at hl 1 rfl) ?_
    refine lv_iconst (v := 2) S.x S.b d_Ker_send_6 (by decide) ?_
    refine lv_iconst (v := 0) S.x S.b d_Ker_send_7 (by decide) ?_
    have hw : pw D A s.heap _ _ [wd_Ker cs hk kr (fun _ => none) kf ka (gKe pq pz tq rq), fm 13 (fTx cs tq TR TO TF TA), fm 8 (fPp cs pq PV), fm 13 (fRw cs rq RR RM RW RF RA RC)] := hw.sub [0, 1, 3, 2] rfl rfl
    have hw : pw D A s.heap _ _ [wd_Ker cs hk kr (fun _ => none) kf ka (gKe pq pz tq rq), fm 13 (fTx cs tq TR TO TF TA), fm 8 (fPp cs pq PV), fo 13 (fRw cs rq RR RM RW RF RA RC) ip, wd_Raw cs hx (RR ip) (fun k => if k = 2 then (RM ip) else if k = 4 then (some ((PV j1).r 1)) else none) (RF ip) (RA ip) (fun _ _ => none), nA cs (RM ip) 36864 (RC ip)] := frw_out (pr := [wd_Ker cs hk kr (fun _ => none) kf ka (gKe pq pz tq rq), fm 13 (fTx cs tq TR TO TF TA), fm 8 (fPp cs pq PV)]) hw hip hcu.1 hto1
    have hng51 := ndS_ge 13 RM ip hip
    have hrn51 : RwN ip (RF ip) := hki.2.2.1 ip hip _ hcu.1
    have hro51 := hrn51.1
    unfold RwO at hro51
    have hid51 := hrn51.2.1
    have hch51 := hrn51.2.2
    unfold KcI at hch51
    have hw : pw D A s.heap _ _ [wd_Ker cs hk kr (fun _ => none) kf ka (gKe pq pz tq rq), fm 13 (fTx cs tq TR TO TF TA), fm 8 (fPp cs pq PV), fo 13 (fRw cs rq RR RM RW RF RA RC) ip, nA cs (RM ip) 36864 (RC ip), wd_Raw cs hx (RR ip) (fun k => if k = 2 then (RM ip) else if k = 4 then (some ((PV j1).r 1)) else none) (RF ip) (RA ip) (fun _ _ => none)] := hw.sub [0, 1, 2, 3, 5, 4] rfl rfl
    refine px_callv (pr := [wd_Ker cs hk kr (fun _ => none) kf ka (gKe pq pz tq rq), fm 13 (fTx cs tq TR TO TF TA), fm 8 (fPp cs pq PV), fo 13 (fRw cs rq RR RM RW RF RA RC) ip, nA cs (RM ip) 36864 (RC ip)]) (px_runU (As := [.int 2, .int 0]) (rest := []) S (c_finish_Raw l D cs hx (RR ip) (fun _ _ => none) (RM ip) (some ((PV j1).r 1)) (RF ip) (RA ip) 2 0   _) hT (pr := [wd_Ker cs hk kr (fun _ => none) kf ka (gKe pq pz tq rq), fm 13 (fTx cs tq TR TO TF TA), fm 8 (fPp cs pq PV), fo 13 (fRw cs rq RR RM RW RF RA RC) ip, nA cs (RM ip) 36864 (RC ip)]) (pcs := [wd_Raw cs hx (RR ip) (fun k => if k = 2 then (RM ip) else if k = 4 then (some ((PV j1).r 1)) else none) (RF ip) (RA ip) (fun _ _ => none)]) hw px_X.tt (C := "HomeSystem$RawProcess") (x := ⟨"HomeSystem$AnyProcess", "finish", "(II)V"⟩) (px_recv hT hw 5 0 rfl rfl rfl) m8_89 m8_84 m8_86 m8_85 m8_87 m1_33 rfl q_HomeSystem_AnyProcess_finish ⟨Nat.le_of_ble_eq_true rfl, Nat.le_of_ble_eq_true rfl⟩ hl.1 rfl (Nat.le_of_ble_eq_true rfl) d_Ker_send_8 ⟨show 0 + 0 ≤ (5 * ndS 13 tq + 4 * ndS 13 rq + ndS 13 RM) from (by first | exact oz_9c199dfd7f | omega), show 0 + 0 ≤ (9804 * ndS 13 tq + 342 * ndS 13 rq + 36864 * ndS 13 RM) from (by first | exact oz_54615505fb | omega)⟩) hw hA (fun p54 H locs hp54 hw => ?_)
    obtain ⟨f52, a53, rfl, e56, e57, e58, e59, e60, e61, e62⟩ := hp54
    have e56 : (f52 3).toInt = ((RF ip) 3).toInt := e56
    have e57 : (f52 7).toInt = ((RF ip) 7).toInt := e57
    have e58 : (f52 8).toInt = ((RF ip) 8).toInt := e58
    have e59 : (f52 10).toInt = ((RF ip) 10).toInt := e59
    have e60 : (f52 13).toInt = ((RF ip) 13).toInt := e60
    have e61 : (f52 14).toInt = 0 := e61
    have e62 : (f52 11).toInt = (2 : Int) := e62
    have hw : pw D A s.heap H locs [wd_Ker cs hk kr (fun _ => none) kf ka (gKe pq pz tq rq), fm 13 (fTx cs tq TR TO TF TA), fm 8 (fPp cs pq PV), fo 13 (fRw cs rq RR RM RW RF RA RC) ip, nA cs (RM ip) 36864 (RC ip), wd_Raw cs hx (RR ip) (fun k => if k = 2 then (RM ip) else if k = 4 then (some ((PV j1).r 1)) else none) f52 a53 (fun _ _ => none)] := hw
    refine lv_iconst (v := 1) S.x S.b d_Ker_send_11 (by decide) ?_
    have hw : pw D A s.heap _ _ [wd_Ker cs hk kr (fun _ => none) kf ka (gKe pq pz tq rq), fm 13 (fTx cs tq TR TO TF TA), fm 8 (fPp cs pq PV), fo 13 (fRw cs rq RR RM RW RF RA RC) ip, wd_Raw cs hx (RR ip) (fun k => if k = 2 then (RM ip) else if k = 4 then (some ((PV j1).r 1)) else none) f52 a53 (fun _ _ => none), nA cs (RM ip) 36864 (RC ip)] := hw.sub [0, 1, 2, 3, 5, 4] rfl rfl
    have hw := frw_in0 (pr := [wd_Ker cs hk kr (fun _ => none) kf ka (gKe pq pz tq rq), fm 13 (fTx cs tq TR TO TF TA), fm 8 (fPp cs pq PV)]) hw hip hcu.1 hto1
    obtain ⟨RM63, hu_RM63⟩ : ∃ y : Nat → Option Nat, y = va_up RM ip (RM ip) := ⟨_, rfl⟩
    obtain ⟨RF64, hu_RF64⟩ : ∃ y : Nat → Nat → Int32, y = va_up RF ip f52 := ⟨_, rfl⟩
    obtain ⟨RA65, hu_RA65⟩ : ∃ y : Nat → Nat → Nat → Int32, y = va_up RA ip a53 := ⟨_, rfl⟩
    obtain ⟨RC66, hu_RC66⟩ : ∃ y : Nat → Nat → Int32, y = va_up RC ip (RC ip) := ⟨_, rfl⟩
    have hw : pw D A s.heap _ _ [wd_Ker cs hk kr (fun _ => none) kf ka (gKe pq pz tq rq), fm 13 (fTx cs tq TR TO TF TA), fm 8 (fPp cs pq PV), fm 13 (fRw cs rq RR RM63 RW RF64 RA65 RC66)] := (by rw [hu_RM63, hu_RF64, hu_RA65, hu_RC66]; exact hw)
    have hki : KnI pq PV pz tq rq TO TF TA RW RF64 := (by rw [hu_RF64]; exact hki.upR (show RwN ip f52 from ⟨(show (0 ≤ (f52 7).toInt ∧ (f52 7).toInt ≤ 1600) ∧ (0 ≤ (f52 10).toInt ∧ (f52 10).toInt + (f52 7).toInt ≤ 1600) ∧ ((f52 14).toInt = 0 ∨ (f52 14).toInt = 1) ∧ ((f52 14).toInt = 1 → 1 ≤ (f52 7).toInt) from by omega), (show ((f52 8).toInt) = ((ip : Nat) : Int) from by omega), (show 0 ≤ (f52 13).toInt ∧ (f52 13).toInt ≤ 3 ∧ ((f52 13).toInt = 0 ∨ 3 * ((ip : Nat) : Int) + (f52 13).toInt ≤ 12) from by omega)⟩))
    have hrm : RmI rq RM63 := (by rw [hu_RM63]; exact hrm.up hcu.1)
    have hnd_RM63 := ndS_up 13 RM ip (RM ip) hip; rw [← hu_RM63] at hnd_RM63
    have hz14_RF64 : (RF64 ip 14).toInt = (f52 14).toInt := (by rw [hu_RF64, va_up_s]; try rfl)
    have hw : pw D A s.heap _ _ [wd_Ker cs hk kr (fun _ => none) kf ka (gKe pq pz tq rq), fm 13 (fTx cs tq TR TO TF TA), fm 13 (fRw cs rq RR RM63 RW RF64 RA65 RC66), fm 8 (fPp cs pq PV)] := hw.sub [0, 1, 3, 2] rfl rfl
    exact pg_iret (v := 1) S hr rfl hlk hAe hw (show 0 ≤ (5 * ndS 13 tq + 4 * ndS 13 rq + ndS 13 RM) from by first | exact oz_86e49526c7 | omega) (show 0 ≤ (9804 * ndS 13 tq + 342 * ndS 13 rq + 36864 * ndS 13 RM) from by first | exact oz_fc3b58e969 | omega) (⟨pz, tq, rq, ka, TR, TO, TF, TA, RR, RM63, RW, RF64, RA65, RC66, rfl, (show (1 : Int32) = 0 ∨ (1 : Int32) = 1 from by first | exact Or.inl rfl | exact Or.inr rfl | exact z_or (by omega)), (show CuR pq PV rq RW ip hx from hcu), (show KnI pq PV pz tq rq TO TF TA RW RF64 from hki), (show RoI ka from hro), (show RmI rq RM63 from hrm), (show 0 + (5 * ndS 13 tq + 4 * ndS 13 rq + ndS 13 RM63) ≤ 5 * ndS 13 tq + 4 * ndS 13 rq + ndS 13 RM from by omega), (show 0 + (9804 * ndS 13 tq + 342 * ndS 13 rq + 36864 * ndS 13 RM63) ≤ 9804 * ndS 13 tq + 342 * ndS 13 rq + 36864 * ndS 13 RM from by omega)⟩) d_Ker_send_12
abbrev b_Ker_receive : ByteArray := prog_4_method_9_code
def y_Ker_receive : MethodName := ⟨"HomeSystem$Kernel", "receive", "(LHomeSystem$AnyProcess;II)Z"⟩
theorem d_Ker_receive_0 : decode b_Ker_receive 0 = .ok (.iload_n 2, 1) := by decide +kernel
theorem d_Ker_receive_1 : decode b_Ker_receive 1 = .ok (.iconst (-1), 1) := by decide +kernel
theorem d_Ker_receive_2 : decode b_Ker_receive 2 = .ok (.if_icmp .ne 11, 3) := by decide +kernel
theorem d_Ker_receive_5 : decode b_Ker_receive 5 = .ok (.aload_n 1, 1) := by decide +kernel
theorem d_Ker_receive_6 : decode b_Ker_receive 6 = .ok (.iconst 2, 1) := by decide +kernel
theorem d_Ker_receive_7 : decode b_Ker_receive 7 = .ok (.iconst 0, 1) := by decide +kernel
theorem d_Ker_receive_8 : decode b_Ker_receive 8 = .ok (.invokevirtual 74, 3) := by decide +kernel
theorem d_Ker_receive_11 : decode b_Ker_receive 11 = .ok (.iconst 1, 1) := by decide +kernel
theorem d_Ker_receive_12 : decode b_Ker_receive 12 = .ok (.ireturn, 1) := by decide +kernel
theorem d_Ker_receive_13 : decode b_Ker_receive 13 = .ok (.aload_n 1, 1) := by decide +kernel
theorem d_Ker_receive_14 : decode b_Ker_receive 14 = .ok (.getfield 108, 3) := by decide +kernel
theorem d_Ker_receive_17 : decode b_Ker_receive 17 = .ok (.iconst 4, 1) := by decide +kernel
theorem d_Ker_receive_18 : decode b_Ker_receive 18 = .ok (.if_icmp .ne 7, 3) := by decide +kernel
theorem d_Ker_receive_21 : decode b_Ker_receive 21 = .ok (.iconst 1, 1) := by decide +kernel
theorem d_Ker_receive_22 : decode b_Ker_receive 22 = .ok (.goto 4, 3) := by decide +kernel
theorem d_Ker_receive_25 : decode b_Ker_receive 25 = .ok (.iconst 0, 1) := by decide +kernel
theorem d_Ker_receive_26 : decode b_Ker_receive 26 = .ok (.istore 4, 2) := by decide +kernel
theorem d_Ker_receive_28 : decode b_Ker_receive 28 = .ok (.aload_n 0, 1) := by decide +kernel
theorem d_Ker_receive_29 : decode b_Ker_receive 29 = .ok (.getfield 45, 3) := by decide +kernel
theorem d_Ker_receive_32 : decode b_Ker_receive 32 = .ok (.iload_n 3, 1) := by decide +kernel
theorem d_Ker_receive_33 : decode b_Ker_receive 33 = .ok (.iaload, 1) := by decide +kernel
theorem d_Ker_receive_34 : decode b_Ker_receive 34 = .ok (.ifCond .ne 36, 3) := by decide +kernel
theorem d_Ker_receive_37 : decode b_Ker_receive 37 = .ok (.iload 4, 2) := by decide +kernel
theorem d_Ker_receive_39 : decode b_Ker_receive 39 = .ok (.ifCond .eq 15, 3) := by decide +kernel
theorem d_Ker_receive_42 : decode b_Ker_receive 42 = .ok (.aload_n 0, 1) := by decide +kernel
theorem d_Ker_receive_43 : decode b_Ker_receive 43 = .ok (.iload_n 2, 1) := by decide +kernel
theorem d_Ker_receive_44 : decode b_Ker_receive 44 = .ok (.invokevirtual 70, 3) := by decide +kernel
theorem d_Ker_receive_47 : decode b_Ker_receive 47 = .ok (.ifCond .ne 7, 3) := by decide +kernel
theorem d_Ker_receive_50 : decode b_Ker_receive 50 = .ok (.iconst 1, 1) := by decide +kernel
theorem d_Ker_receive_51 : decode b_Ker_receive 51 = .ok (.goto 4, 3) := by decide +kernel
theorem d_Ker_receive_54 : decode b_Ker_receive 54 = .ok (.iconst 0, 1) := by decide +kernel
theorem d_Ker_receive_55 : decode b_Ker_receive 55 = .ok (.istore 5, 2) := by decide +kernel
theorem d_Ker_receive_57 : decode b_Ker_receive 57 = .ok (.iload 5, 2) := by decide +kernel
theorem d_Ker_receive_59 : decode b_Ker_receive 59 = .ok (.ifCond .eq 8, 3) := by decide +kernel
theorem d_Ker_receive_62 : decode b_Ker_receive 62 = .ok (.aload_n 1, 1) := by decide +kernel
theorem d_Ker_receive_63 : decode b_Ker_receive 63 = .ok (.iconst 0, 1) := by decide +kernel
theorem d_Ker_receive_64 : decode b_Ker_receive 64 = .ok (.invokevirtual 117, 3) := by decide +kernel
theorem d_Ker_receive_67 : decode b_Ker_receive 67 = .ok (.iload 5, 2) := by decide +kernel
theorem d_Ker_receive_69 : decode b_Ker_receive 69 = .ok (.ireturn, 1) := by decide +kernel
theorem d_Ker_receive_70 : decode b_Ker_receive 70 = .ok (.iload 4, 2) := by decide +kernel
theorem d_Ker_receive_72 : decode b_Ker_receive 72 = .ok (.ifCond .eq 10, 3) := by decide +kernel
theorem d_Ker_receive_75 : decode b_Ker_receive 75 = .ok (.aload_n 1, 1) := by decide +kernel
theorem d_Ker_receive_76 : decode b_Ker_receive 76 = .ok (.iconst 1, 1) := by decide +kernel
theorem d_Ker_receive_77 : decode b_Ker_receive 77 = .ok (.invokevirtual 117, 3) := by decide +kernel
theorem d_Ker_receive_80 : decode b_Ker_receive 80 = .ok (.iconst 1, 1) := by decide +kernel
theorem d_Ker_receive_81 : decode b_Ker_receive 81 = .ok (.ireturn, 1) := by decide +kernel
theorem d_Ker_receive_82 : decode b_Ker_receive 82 = .ok (.aload_n 0, 1) := by decide +kernel
theorem d_Ker_receive_83 : decode b_Ker_receive 83 = .ok (.getfield 39, 3) := by decide +kernel
theorem d_Ker_receive_86 : decode b_Ker_receive 86 = .ok (.iconst 4, 1) := by decide +kernel
theorem d_Ker_receive_87 : decode b_Ker_receive 87 = .ok (.iload_n 3, 1) := by decide +kernel
theorem d_Ker_receive_88 : decode b_Ker_receive 88 = .ok (.imul, 1) := by decide +kernel
theorem d_Ker_receive_89 : decode b_Ker_receive 89 = .ok (.aload_n 0, 1) := by decide +kernel
theorem d_Ker_receive_90 : decode b_Ker_receive 90 = .ok (.getfield 42, 3) := by decide +kernel
theorem d_Ker_receive_93 : decode b_Ker_receive 93 = .ok (.iload_n 3, 1) := by decide +kernel
theorem d_Ker_receive_94 : decode b_Ker_receive 94 = .ok (.iaload, 1) := by decide +kernel
theorem d_Ker_receive_95 : decode b_Ker_receive 95 = .ok (.iadd, 1) := by decide +kernel
theorem d_Ker_receive_96 : decode b_Ker_receive 96 = .ok (.iaload, 1) := by decide +kernel
theorem d_Ker_receive_97 : decode b_Ker_receive 97 = .ok (.istore 5, 2) := by decide +kernel
theorem d_Ker_receive_99 : decode b_Ker_receive 99 = .ok (.aload_n 0, 1) := by decide +kernel
theorem d_Ker_receive_100 : decode b_Ker_receive 100 = .ok (.getfield 42, 3) := by decide +kernel
theorem d_Ker_receive_103 : decode b_Ker_receive 103 = .ok (.iload_n 3, 1) := by decide +kernel
theorem d_Ker_receive_104 : decode b_Ker_receive 104 = .ok (.aload_n 0, 1) := by decide +kernel
theorem d_Ker_receive_105 : decode b_Ker_receive 105 = .ok (.getfield 42, 3) := by decide +kernel
theorem d_Ker_receive_108 : decode b_Ker_receive 108 = .ok (.iload_n 3, 1) := by decide +kernel
theorem d_Ker_receive_109 : decode b_Ker_receive 109 = .ok (.iaload, 1) := by decide +kernel
theorem d_Ker_receive_110 : decode b_Ker_receive 110 = .ok (.iconst 1, 1) := by decide +kernel
theorem d_Ker_receive_111 : decode b_Ker_receive 111 = .ok (.iadd, 1) := by decide +kernel
theorem d_Ker_receive_112 : decode b_Ker_receive 112 = .ok (.iconst 4, 1) := by decide +kernel
theorem d_Ker_receive_113 : decode b_Ker_receive 113 = .ok (.irem, 1) := by decide +kernel
theorem d_Ker_receive_114 : decode b_Ker_receive 114 = .ok (.iastore, 1) := by decide +kernel
theorem d_Ker_receive_115 : decode b_Ker_receive 115 = .ok (.aload_n 0, 1) := by decide +kernel
theorem d_Ker_receive_116 : decode b_Ker_receive 116 = .ok (.getfield 45, 3) := by decide +kernel
theorem d_Ker_receive_119 : decode b_Ker_receive 119 = .ok (.iload_n 3, 1) := by decide +kernel
theorem d_Ker_receive_120 : decode b_Ker_receive 120 = .ok (.dup2, 1) := by decide +kernel
theorem d_Ker_receive_121 : decode b_Ker_receive 121 = .ok (.iaload, 1) := by decide +kernel
theorem d_Ker_receive_122 : decode b_Ker_receive 122 = .ok (.iconst 1, 1) := by decide +kernel
theorem d_Ker_receive_123 : decode b_Ker_receive 123 = .ok (.isub, 1) := by decide +kernel
theorem d_Ker_receive_124 : decode b_Ker_receive 124 = .ok (.iastore, 1) := by decide +kernel
theorem d_Ker_receive_125 : decode b_Ker_receive 125 = .ok (.aload_n 1, 1) := by decide +kernel
theorem d_Ker_receive_126 : decode b_Ker_receive 126 = .ok (.iload 5, 2) := by decide +kernel
theorem d_Ker_receive_128 : decode b_Ker_receive 128 = .ok (.invokevirtual 117, 3) := by decide +kernel
theorem d_Ker_receive_131 : decode b_Ker_receive 131 = .ok (.iconst 1, 1) := by decide +kernel
theorem d_Ker_receive_132 : decode b_Ker_receive 132 = .ok (.ireturn, 1) := by decide +kernel
theorem q_Ker_receive : px_y y_Ker_receive 3 := by unfold px_y; decide +kernel
set_option maxHeartbeats 4000000 in
set_option maxRecDepth 100000 in
theorem c_k_receive_T (l : Launch) (D : va_G) (cs : Nat → ClassId) (hk : Nat) (kr : Nat → Nat) (pq : Nat → Option Nat) (kf : Nat → Int32) (PV : Nat → Pvs) (pz : Nat → Option Nat) (tq : Nat → Option Nat) (rq : Nat → Option Nat) (ka : Nat → Nat → Int32) (TR : Nat → Nat → Nat) (TO : Nat → Option Nat) (TF : Nat → Nat → Int32) (TA : Nat → Nat → Nat → Int32) (RR : Nat → Nat → Nat) (RM : Nat → Option Nat) (RW : Nat → Option Nat) (RF : Nat → Nat → Int32) (RA : Nat → Nat → Nat → Int32) (RC : Nat → Nat → Int32) (p0 p1 : Int32) (ip hx : Nat) (g0 : p0.toInt = -1 ∨ (0 ≤ p0.toInt ∧ p0.toInt ≤ 12 ∧ 0 ≤ p1.toInt ∧ p1.toInt ≤ 25)) (g1 : (TF ip 21).toInt = 1) (hki : KnI pq PV pz tq rq TO TF TA RW RF) (hro : RoI ka) (hrm : RmI rq RM) (hip : ip < 13) (hcu : CuT pq PV tq TO ip hx) : MgI l y_Ker_receive b_Ker_receive 6 (.boolean) D cs 4 160 ((5 * ndS 13 tq + 4 * ndS 13 rq + ndS 13 RM)) ((9804 * ndS 13 tq + 342 * ndS 13 rq + 36864 * ndS 13 RM)) [.ref hk, .ref hx, .int p0, .int p1] [wd_Ker cs hk kr (fun _ => none) kf ka (gKe pq pz tq rq), fm 13 (fTx cs tq TR TO TF TA), fm 13 (fRw cs rq RR RM RW RF RA RC), fm 8 (fPp cs pq PV)] (fun _ => True) (fun v ps => ∃ (pz' : Nat → Option Nat) (tq' : Nat → Option Nat) (rq' : Nat → Option Nat) (ka' : Nat → Nat → Int32) (TR' : Nat → Nat → Nat) (TO' : Nat → Option Nat) (TF' : Nat → Nat → Int32) (TA' : Nat → Nat → Nat → Int32) (RR' : Nat → Nat → Nat) (RM' : Nat → Option Nat) (RW' : Nat → Option Nat) (RF' : Nat → Nat → Int32) (RA' : Nat → Nat → Nat → Int32) (RC' : Nat → Nat → Int32), (ps.1 = [wd_Ker cs hk kr (fun _ => none) kf ka' (gKe pq pz' tq' rq'), fm 13 (fTx cs tq' TR' TO' TF' TA'), fm 13 (fRw cs rq' RR' RM' RW' RF' RA' RC'), fm 8 (fPp cs pq PV)]) ∧ (v = 0 ∨ v = 1) ∧ (CuT pq PV tq' TO' ip hx) ∧ (KnI pq PV pz' tq' rq' TO' TF' TA' RW' RF') ∧ (RoI ka') ∧ (RmI rq' RM') ∧ (ps.2.1 + (5 * ndS 13 tq' + 4 * ndS 13 rq' + ndS 13 RM') ≤ 5 * ndS 13 tq + 4 * ndS 13 rq + ndS 13 RM) ∧ (ps.2.2 + (9804 * ndS 13 tq' + 342 * ndS 13 rq' + 36864 * ndS 13 RM') ≤ 9804 * ndS 13 tq + 342 * ndS 13 rq + 36864 * ndS 13 RM)) := by
  refine pg_enter (by decide) (Nat.le_of_ble_eq_true rfl) ?_
  intro p e s m below meth c A ls hAe S hr hlk hnm hA hT hX hw hl
  have hl : lv_has ls 6 [(0, .ref hk), (1, .ref hx), (2, .int p0), (3, .int p1)] := hl
  have lp0 := Int32.le_toInt p0
  have up0 := Int32.toInt_lt p0
  have lp1 := Int32.le_toInt p1
  have up1 := Int32.toInt_lt p1
  have cstm1 : ((-1) : Int32).toInt = (-1) := rfl
  have cst0 : (0 : Int32).toInt = 0 := rfl
  have cst1 : (1 : Int32).toInt = 1 := rfl
  have cst2 : (2 : Int32).toInt = 2 := rfl
  have cst4 : (4 : Int32).toInt = 4 := rfl
  refine lv_iload_n S.x S.b d_Ker_receive_0 rfl (lv_at hl 2 rfl) ?_
  obtain ⟨j1, hp1, hj1, hjq1, hto1, hf01⟩ := hcu.2
  refine lv_iconst (v := (-1)) S.x S.b d_Ker_receive_1 (by decide) ?_
  refine lv_icmp_ne (tgt := 13) S.x S.b d_Ker_receive_2 (by decide) (fun c2 => ?_) (fun c2 => ?_)
  · have nc2 : ¬ p0.toInt = (-1 : Int) := mt (i_eq (x := p0) (y := (-1))).mpr c2
    refine lv_aload_n S.x S.b d_Ker_receive_13 rfl (lv_at hl 1 rfl) ?_
    have hw : pw D A s.heap _ _ [wd_Ker cs hk kr (fun _ => none) kf ka (gKe pq pz tq rq), fm 13 (fRw cs rq RR RM RW RF RA RC), fm 8 (fPp cs pq PV), fm 13 (fTx cs tq TR TO TF TA)] := hw.sub [0, 2, 3, 1] rfl rfl
    have hw : pw D A s.heap _ _ [wd_Ker cs hk kr (fun _ => none) kf ka (gKe pq pz tq rq), fm 13 (fRw cs rq RR RM RW RF RA RC), fm 8 (fPp cs pq PV), fo 13 (fTx cs tq TR TO TF TA) ip, wd_Txp cs hx (TR ip) (fun k => if k = 3 then (some hp1) else none) (TF ip) (TA ip) (fun _ _ => none)] := ftx_out (pr := [wd_Ker cs hk kr (fun _ => none) kf ka (gKe pq pz tq rq), fm 13 (fRw cs rq RR RM RW RF RA RC), fm 8 (fPp cs pq PV)]) hw hip hcu.1 hto1
    have htn4 : TxN ip (TF ip) (TA ip) := hki.2.1 ip hip _ hcu.1
    obtain ⟨lk, ⟨i2, i3⟩, ⟨i4, i5⟩, ⟨i6, i7⟩, i8, ⟨i9, i11⟩, i10, hrt⟩ := htn4.1
    have hid4 := htn4.2.1
    have hch4 := htn4.2.2
    unfold KcI at hch4
    refine px_get S k_Txp hT hw 4 0 22 (v := .int ((TF ip) 22)) rfl rfl rfl (by decide) m6_158 d_Ker_receive_14 ?_
    refine lv_iconst (v := 4) S.x S.b d_Ker_receive_17 (by decide) ?_
    refine lv_icmp_ne (tgt := 25) S.x S.b d_Ker_receive_18 (by decide) (fun c5 => ?_) (fun c5 => ?_)
    · have nc5 : ¬ ((TF ip) 22).toInt = (4 : Int) := mt (i_eq (x := ((TF ip) 22)) (y := 4)).mpr c5
      refine lv_iconst (v := 0) S.x S.b d_Ker_receive_25 (by decide) ?_
      refine lv_istore (lv' := [(4, .int 0), (0, .ref hk), (1, .ref hx), (2, .int p0), (3, .int p1)]) S.x S.b d_Ker_receive_26 hl (by decide) rfl (fun ls hl => ?_)
      refine lv_aload_n S.x S.b d_Ker_receive_28 rfl (lv_at hl 1 rfl) ?_
      refine px_get S k_Ker hT hw 0 0 7 (v := .ref (kr 7)) rfl rfl rfl (by decide) m2_228 d_Ker_receive_29 ?_
      refine lv_iload_n S.x S.b d_Ker_receive_32 rfl (lv_at hl 4 rfl) ?_
      refine px_iald S hT hw 0 8 (n := 26) (f := (ka 7)) rfl (ga_Ker_7 _ _ _ _ _ _ _) (x := p1) (vp_in_iff.mpr (by constructor <;> omega)) d_Ker_receive_33 ?_
      refine lv_topi (fun z7 ez7 => ?_)
      have lz7 := Int32.le_toInt z7
      have uz7 := Int32.toInt_lt z7
      have qz7 := hro.at7 (x := p1) (by omega) (by omega) ez7
      refine lv_if_ne (tgt := 70) S.x S.b d_Ker_receive_34 (by decide) (fun c8 => ?_) (fun c8 => ?_)
      · have nc8 : ¬ z7.toInt = (0 : Int) := mt (i_eq (x := z7) (y := 0)).mpr c8
        refine lv_iload S.x S.b d_Ker_receive_70 (lv_at hl 0 rfl) ?_
        refine lv_if_eq (tgt := 82) S.x S.b d_Ker_receive_72 (by decide) (fun c10 => ?_) (fun c10 => ?_)
        ·
          refine lv_aload_n S.x S.b d_Ker_receive_82 rfl (lv_at hl 1 rfl) ?_
          refine px_get S k_Ker hT hw 0 0 5 (v := .ref (kr 5)) rfl rfl rfl (by decide) m2_226 d_Ker_receive_83 ?_
          refine lv_iconst (v := 4) S.x S.b d_Ker_receive_86 (by decide) ?_
          refine lv_iload_n S.x S.b d_Ker_receive_87 rfl (lv_at hl 4 rfl) ?_
          refine lv_imul S.x S.b d_Ker_receive_88 ?_
          refine lv_topi (fun z11 ez11 => ?_)
          have lz11 := Int32.le_toInt z11
          have uz11 := Int32.toInt_lt z11
          have tz11 : -2147483648 ≤ 4 * p1.toInt → 4 * p1.toInt < 2147483648 → z11.toInt = 4 * p1.toInt := by rw [ez11]; exact i_mulc 4 p1 (by decide)
          try replace tz11 : z11.toInt = 4 * p1.toInt := by omega
          refine lv_aload_n S.x S.b d_Ker_receive_89 rfl (lv_at hl 1 rfl) ?_
          refine px_get S k_Ker hT hw 0 0 6 (v := .ref (kr 6)) rfl rfl rfl (by decide) m2_227 d_Ker_receive_90 ?_
          refine lv_iload_n S.x S.b d_Ker_receive_93 rfl (lv_at hl 4 rfl) ?_
          refine px_iald S hT hw 0 7 (n := 26) (f := (ka 6)) rfl (ga_Ker_6 _ _ _ _ _ _ _) (x := p1) (vp_in_iff.mpr (by constructor <;> omega)) d_Ker_receive_94 ?_
          refine lv_topi (fun z12 ez12 => ?_)
          have lz12 := Int32.le_toInt z12
          have uz12 := Int32.toInt_lt z12
          have qz12 := hro.at6 (x := p1) (by omega) (by omega) ez12
          refine lv_iadd S.x S.b d_Ker_receive_95 ?_
          refine lv_topi (fun z13 ez13 => ?_)
          have tz13 : z13.toInt = (z11.toInt + z12.toInt + 2147483648) % 4294967296 - 2147483648 := by rw [ez13]; exact i_add z11 z12
          have lz13 := Int32.le_toInt z13
          have uz13 := Int32.toInt_lt z13
          try replace tz13 : z13.toInt = z11.toInt + z12.toInt := by omega
          refine px_iald S hT hw 0 6 (n := 104) (f := (ka 5)) rfl (ga_Ker_5 _ _ _ _ _ _ _) (x := z13) (vp_in_iff.mpr (by constructor <;> omega)) d_Ker_receive_96 ?_
          refine lv_topi (fun z14 ez14 => ?_)
          have lz14 := Int32.le_toInt z14
          have uz14 := Int32.toInt_lt z14
          refine lv_istore (lv' := [(5, .int z14), (4, .int 0), (0, .ref hk), (1, .ref hx), (2, .int p0), (3, .int p1)]) S.x S.b d_Ker_receive_97 hl (by decide) rfl (fun ls hl => ?_)
          refine lv_aload_n S.x S.b d_Ker_receive_99 rfl (lv_at hl 2 rfl) ?_
          refine px_get S k_Ker hT hw 0 0 6 (v := .ref (kr 6)) rfl rfl rfl (by decide) m2_227 d_Ker_receive_100 ?_
          refine lv_iload_n S.x S.b d_Ker_receive_103 rfl (lv_at hl 5 rfl) ?_
          refine lv_aload_n S.x S.b d_Ker_receive_104 rfl (lv_at hl 2 rfl) ?_
          refine px_get S k_Ker hT hw 0 0 6 (v := .ref (kr 6)) rfl rfl rfl (by decide) m2_227 d_Ker_receive_105 ?_
          refine lv_iload_n S.x S.b d_Ker_receive_108 rfl (lv_at hl 5 rfl) ?_
          refine px_iald S hT hw 0 7 (n := 26) (f := (ka 6)) rfl (ga_Ker_6 _ _ _ _ _ _ _) (x := p1) (vp_in_iff.mpr (by constructor <;> omega)) d_Ker_receive_109 ?_
          refine lv_topi (fun z15 ez15 => ?_)
          have lz15 := Int32.le_toInt z15
          have uz15 := Int32.toInt_lt z15
          have qz15 := hro.at6 (x := p1) (by omega) (by omega) ez15
          refine lv_iconst (v := 1) S.x S.b d_Ker_receive_110 (by decide) ?_
          refine lv_iadd S.x S.b d_Ker_receive_111 ?_
          refine lv_topi (fun z16 ez16 => ?_)
          have tz16 : z16.toInt = (z15.toInt + (1 : Int) + 2147483648) % 4294967296 - 2147483648 := by rw [ez16]; exact i_add z15 1
          have lz16 := Int32.le_toInt z16
          have uz16 := Int32.toInt_lt z16
          try replace tz16 : z16.toInt = z15.toInt + (1 : Int) := by omega
          refine lv_iconst (v := 4) S.x S.b d_Ker_receive_112 (by decide) ?_
          refine lv_irem S.x S.b d_Ker_receive_113 (by decide) ?_
          refine lv_topi (fun z17 ez17 => ?_)
          have lz17 := Int32.le_toInt z17
          have uz17 := Int32.toInt_lt z17
          have tz17 : 0 ≤ z16.toInt → z17.toInt = z16.toInt % 4 := (by intro h9; rw [ez17]; exact i_irem9 h9 (y := 4) (d := 4) (by decide) (by decide))
          try replace tz17 := tz17 (by omega)
          refine px_iast S hT hw 0 7 (n := 26) (f := (ka 6)) (x := p1) (y := z17) rfl (ga_Ker_6 _ _ _ _ _ _ _) (vp_in_iff.mpr (by constructor <;> omega)) d_Ker_receive_114 (w' := wd_Ker cs hk kr (fun _ => none) kf (va_up ka 6 (upd (ka 6) p1.toNatClampNeg z17)) (gKe pq pz tq rq)) (ps' := [wd_Ker cs hk kr (fun _ => none) kf (va_up ka 6 (upd (ka 6) p1.toNatClampNeg z17)) (gKe pq pz tq rq), fm 13 (fRw cs rq RR RM RW RF RA RC), fm 8 (fPp cs pq PV), fo 13 (fTx cs tq TR TO TF TA) ip, wd_Txp cs hx (TR ip) (fun k => if k = 3 then (some hp1) else none) (TF ip) (TA ip) (fun _ _ => none)]) (sa_Ker_6 _ _ _ _ _ _ _ _) rfl (fun H locs hw => ?_)
          have hro : RoI (va_up ka 6 (upd (ka 6) p1.toNatClampNeg z17)) := hro.up6 (by omega) (by omega)
          refine lv_aload_n S.x S.b d_Ker_receive_115 rfl (lv_at hl 2 rfl) ?_
          refine px_get S k_Ker hT hw 0 0 7 (v := .ref (kr 7)) rfl rfl rfl (by decide) m2_228 d_Ker_receive_116 ?_
          refine lv_iload_n S.x S.b d_Ker_receive_119 rfl (lv_at hl 5 rfl) ?_
          refine lv_dup2_11 S.x S.b d_Ker_receive_120 rfl rfl ?_
          refine px_iald S hT hw 0 8 (n := 26) (f := ((va_up ka 6 (upd (ka 6) p1.toNatClampNeg z17)) 7)) rfl (ga_Ker_7 _ _ _ _ _ _ _) (x := p1) (vp_in_iff.mpr (by constructor <;> omega)) d_Ker_receive_121 ?_
          refine lv_topi (fun z18 ez18 => ?_)
          have lz18 := Int32.le_toInt z18
          have uz18 := Int32.toInt_lt z18
          have qz18 := hro.at7 (x := p1) (by omega) (by omega) ez18
          have hlnk : z18.toInt = z7.toInt := (by rw [ez18, ez7, va_up_n (by decide)])
          refine lv_iconst (v := 1) S.x S.b d_Ker_receive_122 (by decide) ?_
          refine lv_isub S.x S.b d_Ker_receive_123 ?_
          refine lv_topi (fun z19 ez19 => ?_)
          have tz19 : z19.toInt = (z18.toInt - (1 : Int) + 2147483648) % 4294967296 - 2147483648 := by rw [ez19]; exact i_sub z18 1
          have lz19 := Int32.le_toInt z19
          have uz19 := Int32.toInt_lt z19
          try replace tz19 : z19.toInt = z18.toInt - (1 : Int) := by omega
          refine px_iast S hT hw 0 8 (n := 26) (f := ((va_up ka 6 (upd (ka 6) p1.toNatClampNeg z17)) 7)) (x := p1) (y := z19) rfl (ga_Ker_7 _ _ _ _ _ _ _) (vp_in_iff.mpr (by constructor <;> omega)) d_Ker_receive_124 (w' := wd_Ker cs hk kr (fun _ => none) kf (va_up (va_up ka 6 (upd (ka 6) p1.toNatClampNeg z17)) 7 (upd ((va_up ka 6 (upd (ka 6) p1.toNatClampNeg z17)) 7) p1.toNatClampNeg z19)) (gKe pq pz tq rq)) (ps' := [wd_Ker cs hk kr (fun _ => none) kf (va_up (va_up ka 6 (upd (ka 6) p1.toNatClampNeg z17)) 7 (upd ((va_up ka 6 (upd (ka 6) p1.toNatClampNeg z17)) 7) p1.toNatClampNeg z19)) (gKe pq pz tq rq), fm 13 (fRw cs rq RR RM RW RF RA RC), fm 8 (fPp cs pq PV), fo 13 (fTx cs tq TR TO TF TA) ip, wd_Txp cs hx (TR ip) (fun k => if k = 3 then (some hp1) else none) (TF ip) (TA ip) (fun _ _ => none)]) (sa_Ker_7 _ _ _ _ _ _ _ _) rfl (fun H locs hw => ?_)
          have hro : RoI (va_up (va_up ka 6 (upd (ka 6) p1.toNatClampNeg z17)) 7 (upd ((va_up ka 6 (upd (ka 6) p1.toNatClampNeg z17)) 7) p1.toNatClampNeg z19)) := hro.up7 (by omega) (by omega)
          refine lv_aload_n S.x S.b d_Ker_receive_125 rfl (lv_at hl 3 rfl) ?_
          refine lv_iload S.x S.b d_Ker_receive_126 (lv_at hl 0 rfl) ?_
          refine px_callv (pr := [wd_Ker cs hk kr (fun _ => none) kf (va_up (va_up ka 6 (upd (ka 6) p1.toNatClampNeg z17)) 7 (upd ((va_up ka 6 (upd (ka 6) p1.toNatClampNeg z17)) 7) p1.toNatClampNeg z19)) (gKe pq pz tq rq), fm 13 (fRw cs rq RR RM RW RF RA RC), fm 8 (fPp cs pq PV), fo 13 (fTx cs tq TR TO TF TA) ip]) (px_runA (As := [.int z14]) (rest := []) S (c_Txp_answer l D cs hx (TR ip) (fun _ _ => none) hp1 (TF ip) (TA ip) z14  (show TxOk ((TF ip) 4) ((TF ip) 5) ((TF ip) 8) ((TF ip) 9) ((TF ip) 17) 0 ((TA ip) 2) from ⟨(by first | exact lk | exact lk_eq lk (by omega) | exact lk_mk (by omega)), ⟨by omega, by omega⟩, ⟨by omega, by omega⟩, ⟨by omega, by omega⟩, by omega, ⟨by decide, by decide⟩, (by show _ + _ + (0 : Int) ≤ 100; omega), hrt⟩) _) hT (pr := [wd_Ker cs hk kr (fun _ => none) kf (va_up (va_up ka 6 (upd (ka 6) p1.toNatClampNeg z17)) 7 (upd ((va_up ka 6 (upd (ka 6) p1.toNatClampNeg z17)) 7) p1.toNatClampNeg z19)) (gKe pq pz tq rq), fm 13 (fRw cs rq RR RM RW RF RA RC), fm 8 (fPp cs pq PV), fo 13 (fTx cs tq TR TO TF TA) ip]) (pcs := [wd_Txp cs hx (TR ip) (fun k => if k = 3 then (some hp1) else none) (TF ip) (TA ip) (fun _ _ => none)]) hw px_X.tt (C := "HomeSystem$TextProcess") (owner := "HomeSystem$AnyProcess") (x := ⟨"HomeSystem$AnyProcess", "answer", "(I)V"⟩) (px_recv hT hw 4 0 rfl rfl rfl) m8_75 m8_67 m8_69 m8_74 m8_73 m1_35 m8_68n ⟨by decide, by decide⟩ rfl q_Txp_answer ⟨Nat.le_of_ble_eq_true rfl, Nat.le_of_ble_eq_true rfl⟩ hl.1 rfl (Nat.le_of_ble_eq_true rfl) d_Ker_receive_128 ⟨show 0 + 0 ≤ (5 * ndS 13 tq + 4 * ndS 13 rq + ndS 13 RM) from (by first | exact oz_9c199dfd7f | omega), show 0 + 0 ≤ (9804 * ndS 13 tq + 342 * ndS 13 rq + 36864 * ndS 13 RM) from (by first | exact oz_54615505fb | omega)⟩) hw hA (fun p24 H locs hp24 hw => ?_)
          obtain ⟨f22, a23, rfl, e26, e27, e28, e29, e30, e31⟩ := hp24
          have e26 : TxOk (f22 4) (f22 5) (f22 8) (f22 9) (f22 17) (f22 21) (a23 2) := e26
          obtain ⟨lk, ⟨i2, i3⟩, ⟨i4, i5⟩, ⟨i6, i7⟩, i8, ⟨i9, i11⟩, i10, hrt⟩ := e26
          have e27 : (f22 9).toInt = ((TF ip) 9).toInt := e27
          have e28 : (f22 17).toInt = ((TF ip) 17).toInt := e28
          have e29 : (f22 21).toInt = 0 := e29
          have e30 : (f22 15).toInt = ((TF ip) 15).toInt := e30
          have e31 : (f22 20).toInt = ((TF ip) 20).toInt := e31
          have hw : pw D A s.heap H locs [wd_Ker cs hk kr (fun _ => none) kf (va_up (va_up ka 6 (upd (ka 6) p1.toNatClampNeg z17)) 7 (upd ((va_up ka 6 (upd (ka 6) p1.toNatClampNeg z17)) 7) p1.toNatClampNeg z19)) (gKe pq pz tq rq), fm 13 (fRw cs rq RR RM RW RF RA RC), fm 8 (fPp cs pq PV), fo 13 (fTx cs tq TR TO TF TA) ip, wd_Txp cs hx (TR ip) (fun k => if k = 3 then (some hp1) else none) f22 a23 (fun _ _ => none)] := hw
          refine lv_iconst (v := 1) S.x S.b d_Ker_receive_131 (by decide) ?_
          have hw := ftx_in0 (pr := [wd_Ker cs hk kr (fun _ => none) kf (va_up (va_up ka 6 (upd (ka 6) p1.toNatClampNeg z17)) 7 (upd ((va_up ka 6 (upd (ka 6) p1.toNatClampNeg z17)) 7) p1.toNatClampNeg z19)) (gKe pq pz tq rq), fm 13 (fRw cs rq RR RM RW RF RA RC), fm 8 (fPp cs pq PV)]) hw hip hcu.1 hto1
          obtain ⟨TF32, hu_TF32⟩ : ∃ y : Nat → Nat → Int32, y = va_up TF ip f22 := ⟨_, rfl⟩
          obtain ⟨TA33, hu_TA33⟩ : ∃ y : Nat → Nat → Nat → Int32, y = va_up TA ip a23 := ⟨_, rfl⟩
          have hw : pw D A s.heap _ _ [wd_Ker cs hk kr (fun _ => none) kf (va_up (va_up ka 6 (upd (ka 6) p1.toNatClampNeg z17)) 7 (upd ((va_up ka 6 (upd (ka 6) p1.toNatClampNeg z17)) 7) p1.toNatClampNeg z19)) (gKe pq pz tq rq), fm 13 (fRw cs rq RR RM RW RF RA RC), fm 8 (fPp cs pq PV), fm 13 (fTx cs tq TR TO TF32 TA33)] := (by rw [hu_TF32, hu_TA33]; exact hw)
          have hki : KnI pq PV pz tq rq TO TF32 TA33 RW RF := (by rw [hu_TF32, hu_TA33]; exact hki.upT (show TxN ip f22 a23 from ⟨(show TxOk (f22 4) (f22 5) (f22 8) (f22 9) (f22 17) (f22 21) (a23 2) from ⟨(by first | exact lk | exact lk_eq lk (by omega) | exact lk_mk (by omega)), ⟨by omega, by omega⟩, ⟨by omega, by omega⟩, ⟨by omega, by omega⟩, by omega, ⟨by omega, by omega⟩, by omega, hrt⟩), (show ((f22 15).toInt) = ((ip : Nat) : Int) from by omega), (show 0 ≤ (f22 20).toInt ∧ (f22 20).toInt ≤ 3 ∧ ((f22 20).toInt = 0 ∨ 3 * ((ip : Nat) : Int) + (f22 20).toInt ≤ 12) from by omega)⟩))
          have hz21_TF32 : (TF32 ip 21).toInt = (f22 21).toInt := (by rw [hu_TF32, va_up_s]; try rfl)
          have hw : pw D A s.heap _ _ [wd_Ker cs hk kr (fun _ => none) kf (va_up (va_up ka 6 (upd (ka 6) p1.toNatClampNeg z17)) 7 (upd ((va_up ka 6 (upd (ka 6) p1.toNatClampNeg z17)) 7) p1.toNatClampNeg z19)) (gKe pq pz tq rq), fm 13 (fTx cs tq TR TO TF32 TA33), fm 13 (fRw cs rq RR RM RW RF RA RC), fm 8 (fPp cs pq PV)] := hw.sub [0, 3, 1, 2] rfl rfl
          exact pg_iret (v := 1) S hr rfl hlk hAe hw (show 0 ≤ (5 * ndS 13 tq + 4 * ndS 13 rq + ndS 13 RM) from by first | exact oz_86e49526c7 | omega) (show 0 ≤ (9804 * ndS 13 tq + 342 * ndS 13 rq + 36864 * ndS 13 RM) from by first | exact oz_fc3b58e969 | omega) (⟨pz, tq, rq, (va_up (va_up ka 6 (upd (ka 6) p1.toNatClampNeg z17)) 7 (upd ((va_up ka 6 (upd (ka 6) p1.toNatClampNeg z17)) 7) p1.toNatClampNeg z19)), TR, TO, TF32, TA33, RR, RM, RW, RF, RA, RC, rfl, (show (1 : Int32) = 0 ∨ (1 : Int32) = 1 from by first | exact Or.inl rfl | exact Or.inr rfl | exact z_or (by omega)), (show CuT pq PV tq TO ip hx from hcu), (show KnI pq PV pz tq rq TO TF32 TA33 RW RF from hki), (show RoI (va_up (va_up ka 6 (upd (ka 6) p1.toNatClampNeg z17)) 7 (upd ((va_up ka 6 (upd (ka 6) p1.toNatClampNeg z17)) 7) p1.toNatClampNeg z19)) from hro), (show RmI rq RM from hrm), (show 0 + (5 * ndS 13 tq + 4 * ndS 13 rq + ndS 13 RM) ≤ 5 * ndS 13 tq + 4 * ndS 13 rq + ndS 13 RM from by first | exact oz_9d19b050ad | omega), (show 0 + (9804 * ndS 13 tq + 342 * ndS 13 rq + 36864 * ndS 13 RM) ≤ 9804 * ndS 13 tq + 342 * ndS 13 rq + 36864 * ndS 13 RM from by first | exact oz_b5592d0ae7 | omega)⟩) d_Ker_receive_132
        · exact absurd c10 (by decide)
      · have nc8 : z7.toInt = (0 : Int) := (i_eq (x := z7) (y := 0)).mp c8
        refine lv_iload S.x S.b d_Ker_receive_37 (lv_at hl 0 rfl) ?_
        refine lv_if_eq (tgt := 54) S.x S.b d_Ker_receive_39 (by decide) (fun c34 => ?_) (fun c34 => ?_)
        ·
          refine lv_iconst (v := 0) S.x S.b d_Ker_receive_54 (by decide) ?_
          refine lv_istore (lv' := [(5, .int 0), (4, .int 0), (0, .ref hk), (1, .ref hx), (2, .int p0), (3, .int p1)]) S.x S.b d_Ker_receive_55 hl (by decide) rfl (fun ls hl => ?_)
          refine lv_iload S.x S.b d_Ker_receive_57 (lv_at hl 0 rfl) ?_
          refine lv_if_eq (tgt := 67) S.x S.b d_Ker_receive_59 (by decide) (fun c35 => ?_) (fun c35 => ?_)
          ·
            refine lv_iload S.x S.b d_Ker_receive_67 (lv_at hl 0 rfl) ?_
            have hw : pw D A s.heap _ _ [wd_Ker cs hk kr (fun _ => none) kf ka (gKe pq pz tq rq), fm 13 (fRw cs rq RR RM RW RF RA RC), fm 8 (fPp cs pq PV), fm 13 (fTx cs tq TR TO TF TA)] := ftx_back (pr := [wd_Ker cs hk kr (fun _ => none) kf ka (gKe pq pz tq rq), fm 13 (fRw cs rq RR RM RW RF RA RC), fm 8 (fPp cs pq PV)]) hw hip hcu.1 hto1
            have hw : pw D A s.heap _ _ [wd_Ker cs hk kr (fun _ => none) kf ka (gKe pq pz tq rq), fm 13 (fTx cs tq TR TO TF TA), fm 13 (fRw cs rq RR RM RW RF RA RC), fm 8 (fPp cs pq PV)] := hw.sub [0, 3, 1, 2] rfl rfl
            exact pg_iret (v := 0) S hr rfl hlk hAe hw (show 0 ≤ (5 * ndS 13 tq + 4 * ndS 13 rq + ndS 13 RM) from by first | exact oz_86e49526c7 | omega) (show 0 ≤ (9804 * ndS 13 tq + 342 * ndS 13 rq + 36864 * ndS 13 RM) from by first | exact oz_fc3b58e969 | omega) (⟨pz, tq, rq, ka, TR, TO, TF, TA, RR, RM, RW, RF, RA, RC, rfl, (show (0 : Int32) = 0 ∨ (0 : Int32) = 1 from by first | exact Or.inl rfl | exact Or.inr rfl | exact z_or (by omega)), (show CuT pq PV tq TO ip hx from hcu), (show KnI pq PV pz tq rq TO TF TA RW RF from hki), (show RoI ka from hro), (show RmI rq RM from hrm), (show 0 + (5 * ndS 13 tq + 4 * ndS 13 rq + ndS 13 RM) ≤ 5 * ndS 13 tq + 4 * ndS 13 rq + ndS 13 RM from by first | exact oz_9d19b050ad | omega), (show 0 + (9804 * ndS 13 tq + 342 * ndS 13 rq + 36864 * ndS 13 RM) ≤ 9804 * ndS 13 tq + 342 * ndS 13 rq + 36864 * ndS 13 RM from by first | exact oz_b5592d0ae7 | omega)⟩) d_Ker_receive_69
          · exact absurd c35 (by decide)
        · exact absurd c34 (by decide)
    · have nc5 : ((TF ip) 22).toInt = (4 : Int) := (i_eq (x := ((TF ip) 22)) (y := 4)).mp c5
      refine lv_iconst (v := 1) S.x S.b d_Ker_receive_21 (by decide) ?_
      refine lv_goto (tgt := 26) S.x S.b d_Ker_receive_22 (by decide) ?_
      refine lv_istore (lv' := [(4, .int 1), (0, .ref hk), (1, .ref hx), (2, .int p0), (3, .int p1)]) S.x S.b d_Ker_receive_26 hl (by decide) rfl (fun ls hl => ?_)
      refine lv_aload_n S.x S.b d_Ker_receive_28 rfl (lv_at hl 1 rfl) ?_
      refine px_get S k_Ker hT hw 0 0 7 (v := .ref (kr 7)) rfl rfl rfl (by decide) m2_228 d_Ker_receive_29 ?_
      refine lv_iload_n S.x S.b d_Ker_receive_32 rfl (lv_at hl 4 rfl) ?_
      refine px_iald S hT hw 0 8 (n := 26) (f := (ka 7)) rfl (ga_Ker_7 _ _ _ _ _ _ _) (x := p1) (vp_in_iff.mpr (by constructor <;> omega)) d_Ker_receive_33 ?_
      refine lv_topi (fun z36 ez36 => ?_)
      have lz36 := Int32.le_toInt z36
      have uz36 := Int32.toInt_lt z36
      have qz36 := hro.at7 (x := p1) (by omega) (by omega) ez36
      refine lv_if_ne (tgt := 70) S.x S.b d_Ker_receive_34 (by decide) (fun c37 => ?_) (fun c37 => ?_)
      · have nc37 : ¬ z36.toInt = (0 : Int) := mt (i_eq (x := z36) (y := 0)).mpr c37
        refine lv_iload S.x S.b d_Ker_receive_70 (lv_at hl 0 rfl) ?_
        refine lv_if_eq (tgt := 82) S.x S.b d_Ker_receive_72 (by decide) (fun c39 => ?_) (fun c39 => ?_)
        · exact absurd c39 (by decide)
        ·
          refine lv_aload_n S.x S.b d_Ker_receive_75 rfl (lv_at hl 2 rfl) ?_
          refine lv_iconst (v := 1) S.x S.b d_Ker_receive_76 (by decide) ?_
          refine px_callv (pr := [wd_Ker cs hk kr (fun _ => none) kf ka (gKe pq pz tq rq), fm 13 (fRw cs rq RR RM RW RF RA RC), fm 8 (fPp cs pq PV), fo 13 (fTx cs tq TR TO TF TA) ip]) (px_runA (As := [.int 1]) (rest := []) S (c_Txp_answer l D cs hx (TR ip) (fun _ _ => none) hp1 (TF ip) (TA ip) 1  (show TxOk ((TF ip) 4) ((TF ip) 5) ((TF ip) 8) ((TF ip) 9) ((TF ip) 17) 0 ((TA ip) 2) from ⟨(by first | exact lk | exact lk_eq lk (by omega) | exact lk_mk (by omega)), ⟨by omega, by omega⟩, ⟨by omega, by omega⟩, ⟨by omega, by omega⟩, by omega, ⟨by decide, by decide⟩, (by show _ + _ + (0 : Int) ≤ 100; omega), hrt⟩) _) hT (pr := [wd_Ker cs hk kr (fun _ => none) kf ka (gKe pq pz tq rq), fm 13 (fRw cs rq RR RM RW RF RA RC), fm 8 (fPp cs pq PV), fo 13 (fTx cs tq TR TO TF TA) ip]) (pcs := [wd_Txp cs hx (TR ip) (fun k => if k = 3 then (some hp1) else none) (TF ip) (TA ip) (fun _ _ => none)]) hw px_X.tt (C := "HomeSystem$TextProcess") (owner := "HomeSystem$AnyProcess") (x := ⟨"HomeSystem$AnyProcess", "answer", "(I)V"⟩) (px_recv hT hw 4 0 rfl rfl rfl) m8_75 m8_67 m8_69 m8_74 m8_73 m1_35 m8_68n ⟨by decide, by decide⟩ rfl q_Txp_answer ⟨Nat.le_of_ble_eq_true rfl, Nat.le_of_ble_eq_true rfl⟩ hl.1 rfl (Nat.le_of_ble_eq_true rfl) d_Ker_receive_77 ⟨show 0 + 0 ≤ (5 * ndS 13 tq + 4 * ndS 13 rq + ndS 13 RM) from (by first | exact oz_9c199dfd7f | omega), show 0 + 0 ≤ (9804 * ndS 13 tq + 342 * ndS 13 rq + 36864 * ndS 13 RM) from (by first | exact oz_54615505fb | omega)⟩) hw hA (fun p44 H locs hp44 hw => ?_)
          obtain ⟨f42, a43, rfl, e46, e47, e48, e49, e50, e51⟩ := hp44
          have e46 : TxOk (f42 4) (f42 5) (f42 8) (f42 9) (f42 17) (f42 21) (a43 2) := e46
          obtain ⟨lk, ⟨i2, i3⟩, ⟨i4, i5⟩, ⟨i6, i7⟩, i8, ⟨i9, i11⟩, i10, hrt⟩ := e46
          have e47 : (f42 9).toInt = ((TF ip) 9).toInt := e47
          have e48 : (f42 17).toInt = ((TF ip) 17).toInt := e48
          have e49 : (f42 21).toInt = 0 := e49
          have e50 : (f42 15).toInt = ((TF ip) 15).toInt := e50
          have e51 : (f42 20).toInt = ((TF ip) 20).toInt := e51
          have hw : pw D A s.heap H locs [wd_Ker cs hk kr (fun _ => none) kf ka (gKe pq pz tq rq), fm 13 (fRw cs rq RR RM RW RF RA RC), fm 8 (fPp cs pq PV), fo 13 (fTx cs tq TR TO TF TA) ip, wd_Txp cs hx (TR ip) (fun k => if k = 3 then (some hp1) else none) f42 a43 (fun _ _ => none)] := hw
          refine lv_iconst (v := 1) S.x S.b d_Ker_receive_80 (by decide) ?_
          have hw := ftx_in0 (pr := [wd_Ker cs hk kr (fun _ => none) kf ka (gKe pq pz tq rq), fm 13 (fRw cs rq RR RM RW RF RA RC), fm 8 (fPp cs pq PV)]) hw hip hcu.1 hto1
          obtain ⟨TF52, hu_TF52⟩ : ∃ y : Nat → Nat → Int32, y = va_up TF ip f42 := ⟨_, rfl⟩
          obtain ⟨TA53, hu_TA53⟩ : ∃ y : Nat → Nat → Nat → Int32, y = va_up TA ip a43 := ⟨_, rfl⟩
          have hw : pw D A s.heap _ _ [wd_Ker cs hk kr (fun _ => none) kf ka (gKe pq pz tq rq), fm 13 (fRw cs rq RR RM RW RF RA RC), fm 8 (fPp cs pq PV), fm 13 (fTx cs tq TR TO TF52 TA53)] := (by rw [hu_TF52, hu_TA53]; exact hw)
          have hki : KnI pq PV pz tq rq TO TF52 TA53 RW RF := (by rw [hu_TF52, hu_TA53]; exact hki.upT (show TxN ip f42 a43 from ⟨(show TxOk (f42 4) (f42 5) (f42 8) (f42 9) (f42 17) (f42 21) (a43 2) from ⟨(by first | exact lk | exact lk_eq lk (by omega) | exact lk_mk (by omega)), ⟨by omega, by omega⟩, ⟨by omega, by omega⟩, ⟨by omega, by omega⟩, by omega, ⟨by omega, by omega⟩, by omega, hrt⟩), (show ((f42 15).toInt) = ((ip : Nat) : Int) from by omega), (show 0 ≤ (f42 20).toInt ∧ (f42 20).toInt ≤ 3 ∧ ((f42 20).toInt = 0 ∨ 3 * ((ip : Nat) : Int) + (f42 20).toInt ≤ 12) from by omega)⟩))
          have hz21_TF52 : (TF52 ip 21).toInt = (f42 21).toInt := (by rw [hu_TF52, va_up_s]; try rfl)
          have hw : pw D A s.heap _ _ [wd_Ker cs hk kr (fun _ => none) kf ka (gKe pq pz tq rq), fm 13 (fTx cs tq TR TO TF52 TA53), fm 13 (fRw cs rq RR RM RW RF RA RC), fm 8 (fPp cs pq PV)] := hw.sub [0, 3, 1, 2] rfl rfl
          exact pg_iret (v := 1) S hr rfl hlk hAe hw (show 0 ≤ (5 * ndS 13 tq + 4 * ndS 13 rq + ndS 13 RM) from by first | exact oz_86e49526c7 | omega) (show 0 ≤ (9804 * ndS 13 tq + 342 * ndS 13 rq + 36864 * ndS 13 RM) from by first | exact oz_fc3b58e969 | omega) (⟨pz, tq, rq, ka, TR, TO, TF52, TA53, RR, RM, RW, RF, RA, RC, rfl, (show (1 : Int32) = 0 ∨ (1 : Int32) = 1 from by first | exact Or.inl rfl | exact Or.inr rfl | exact z_or (by omega)), (show CuT pq PV tq TO ip hx from hcu), (show KnI pq PV pz tq rq TO TF52 TA53 RW RF from hki), (show RoI ka from hro), (show RmI rq RM from hrm), (show 0 + (5 * ndS 13 tq + 4 * ndS 13 rq + ndS 13 RM) ≤ 5 * ndS 13 tq + 4 * ndS 13 rq + ndS 13 RM from by first | exact oz_9d19b050ad | omega), (show 0 + (9804 * ndS 13 tq + 342 * ndS 13 rq + 36864 * ndS 13 RM) ≤ 9804 * ndS 13 tq + 342 * ndS 13 rq + 36864 * ndS 13 RM from by first | exact oz_b5592d0ae7 | omega)⟩) d_Ker_receive_81
      · have nc37 : z36.toInt = (0 : Int) := (i_eq (x := z36) (y := 0)).mp c37
        refine lv_iload S.x S.b d_Ker_receive_37 (lv_at hl 0 rfl) ?_
        refine lv_if_eq (tgt := 54) S.x S.b d_Ker_receive_39 (by decide) (fun c54 => ?_) (fun c54 => ?_)
        · exact absurd c54 (by decide)
        ·
          refine lv_aload_n S.x S.b d_Ker_receive_42 rfl (lv_at hl 1 rfl) ?_
          refine lv_iload_n S.x S.b d_Ker_receive_43 rfl (lv_at hl 3 rfl) ?_
          have hw : pw D A s.heap _ _ [wd_Ker cs hk kr (fun _ => none) kf ka (gKe pq pz tq rq), fm 13 (fRw cs rq RR RM RW RF RA RC), fm 8 (fPp cs pq PV), fm 13 (fTx cs tq TR TO TF TA)] := ftx_back (pr := [wd_Ker cs hk kr (fun _ => none) kf ka (gKe pq pz tq rq), fm 13 (fRw cs rq RR RM RW RF RA RC), fm 8 (fPp cs pq PV)]) hw hip hcu.1 hto1
          have hw : pw D A s.heap _ _ [wd_Ker cs hk kr (fun _ => none) kf ka (gKe pq pz tq rq), fm 13 (fTx cs tq TR TO TF TA), fm 13 (fRw cs rq RR RM RW RF RA RC), fm 8 (fPp cs pq PV)] := hw.sub [0, 3, 1, 2] rfl rfl
          refine px_calli (pr := []) (px_runV (As := [.int p0]) (rest := []) S (c_k_isRunning l D cs hk kr pq pz tq rq kf ka TR TO TF TA RR RM RW RF RA RC PV p0  (show 0 ≤ p0.toInt from by omega) (show p0.toInt ≤ 12 from by omega) hki _) hT (pr := []) (pcs := [wd_Ker cs hk kr (fun _ => none) kf ka (gKe pq pz tq rq), fm 13 (fTx cs tq TR TO TF TA), fm 13 (fRw cs rq RR RM RW RF RA RC), fm 8 (fPp cs pq PV)]) hw px_X.tt (px_recv hT hw 0 0 rfl rfl rfl) m8_154 m8_151 m8_153 ms_6_1 m1_19 q_Ker_isRunning ⟨Nat.le_of_ble_eq_true rfl, Nat.le_of_ble_eq_true rfl⟩ hl.1 rfl (Nat.le_of_ble_eq_true rfl) d_Ker_receive_44 ⟨show 0 + 0 ≤ (5 * ndS 13 tq + 4 * ndS 13 rq + ndS 13 RM) from (by first | exact oz_9c199dfd7f | omega), show 0 + 0 ≤ (9804 * ndS 13 tq + 342 * ndS 13 rq + 36864 * ndS 13 RM) from (by first | exact oz_54615505fb | omega)⟩) hw hA (fun v56 p55 H locs hp55 hw => ?_)
          obtain ⟨rfl, e57, e58⟩ := hp55
          have e57 := z_rng e57
          have e58 : NnP pz p0 v56 := e58
          have hw : pw D A s.heap H locs [wd_Ker cs hk kr (fun _ => none) kf ka (gKe pq pz tq rq), fm 13 (fTx cs tq TR TO TF TA), fm 13 (fRw cs rq RR RM RW RF RA RC), fm 8 (fPp cs pq PV)] := hw
          have lv56 := Int32.le_toInt v56
          have uv56 := Int32.toInt_lt v56
          refine lv_if_ne (tgt := 54) S.x S.b d_Ker_receive_47 (by decide) (fun c59 => ?_) (fun c59 => ?_)
          · have nc59 : ¬ v56.toInt = (0 : Int) := mt (i_eq (x := v56) (y := 0)).mpr c59
            refine lv_iconst (v := 0) S.x S.b d_Ker_receive_54 (by decide) ?_
            refine lv_istore (lv' := [(5, .int 0), (4, .int 1), (0, .ref hk), (1, .ref hx), (2, .int p0), (3, .int p1)]) S.x S.b d_Ker_receive_55 hl (by decide) rfl (fun ls hl => ?_)
            refine lv_iload S.x S.b d_Ker_receive_57 (lv_at hl 0 rfl) ?_
            refine lv_if_eq (tgt := 67) S.x S.b d_Ker_receive_59 (by decide) (fun c61 => ?_) (fun c61 => ?_)
            ·
              refine lv_iload S.x S.b d_Ker_receive_67 (lv_at hl 0 rfl) ?_
              exact pg_iret (v := 0) S hr rfl hlk hAe hw (show 0 ≤ (5 * ndS 13 tq + 4 * ndS 13 rq + ndS 13 RM) from by first | exact oz_86e49526c7 | omega) (show 0 ≤ (9804 * ndS 13 tq + 342 * ndS 13 rq + 36864 * ndS 13 RM) from by first | exact oz_fc3b58e969 | omega) (⟨pz, tq, rq, ka, TR, TO, TF, TA, RR, RM, RW, RF, RA, RC, rfl, (show (0 : Int32) = 0 ∨ (0 : Int32) = 1 from by first | exact Or.inl rfl | exact Or.inr rfl | exact z_or (by omega)), (show CuT pq PV tq TO ip hx from hcu), (show KnI pq PV pz tq rq TO TF TA RW RF from hki), (show RoI ka from hro), (show RmI rq RM from hrm), (show 0 + (5 * ndS 13 tq + 4 * ndS 13 rq + ndS 13 RM) ≤ 5 * ndS 13 tq + 4 * ndS 13 rq + ndS 13 RM from by first | exact oz_9d19b050ad | omega), (show 0 + (9804 * ndS 13 tq + 342 * ndS 13 rq + 36864 * ndS 13 RM) ≤ 9804 * ndS 13 tq + 342 * ndS 13 rq + 36864 * ndS 13 RM from by first | exact oz_b5592d0ae7 | omega)⟩) d_Ker_receive_69
            · exact absurd c61 (by decide)
          · have nc59 : v56.toInt = (0 : Int) := (i_eq (x := v56) (y := 0)).mp c59
            refine lv_iconst (v := 1) S.x S.b d_Ker_receive_50 (by decide) ?_
            refine lv_goto (tgt := 55) S.x S.b d_Ker_receive_51 (by decide) ?_
            refine lv_istore (lv' := [(5, .int 1), (4, .int 1), (0, .ref hk), (1, .ref hx), (2, .int p0), (3, .int p1)]) S.x S.b d_Ker_receive_55 hl (by decide) rfl (fun ls hl => ?_)
            refine lv_iload S.x S.b d_Ker_receive_57 (lv_at hl 0 rfl) ?_
            refine lv_if_eq (tgt := 67) S.x S.b d_Ker_receive_59 (by decide) (fun c62 => ?_) (fun c62 => ?_)
            · exact absurd c62 (by decide)
            ·
              refine lv_aload_n S.x S.b d_Ker_receive_62 rfl (lv_at hl 3 rfl) ?_
              refine lv_iconst (v := 0) S.x S.b d_Ker_receive_63 (by decide) ?_
              have hw : pw D A s.heap _ _ [wd_Ker cs hk kr (fun _ => none) kf ka (gKe pq pz tq rq), fm 13 (fRw cs rq RR RM RW RF RA RC), fm 8 (fPp cs pq PV), fm 13 (fTx cs tq TR TO TF TA)] := hw.sub [0, 2, 3, 1] rfl rfl
              have hw : pw D A s.heap _ _ [wd_Ker cs hk kr (fun _ => none) kf ka (gKe pq pz tq rq), fm 13 (fRw cs rq RR RM RW RF RA RC), fm 8 (fPp cs pq PV), fo 13 (fTx cs tq TR TO TF TA) ip, wd_Txp cs hx (TR ip) (fun k => if k = 3 then (some hp1) else none) (TF ip) (TA ip) (fun _ _ => none)] := ftx_out (pr := [wd_Ker cs hk kr (fun _ => none) kf ka (gKe pq pz tq rq), fm 13 (fRw cs rq RR RM RW RF RA RC), fm 8 (fPp cs pq PV)]) hw hip hcu.1 hto1
              have htn63 : TxN ip (TF ip) (TA ip) := hki.2.1 ip hip _ hcu.1
              obtain ⟨lk, ⟨i2, i3⟩, ⟨i4, i5⟩, ⟨i6, i7⟩, i8, ⟨i9, i11⟩, i10, hrt⟩ := htn63.1
              have hid63 := htn63.2.1
              have hch63 := htn63.2.2
              unfold KcI at hch63
              refine px_callv (pr := [wd_Ker cs hk kr (fun _ => none) kf ka (gKe pq pz tq rq), fm 13 (fRw cs rq RR RM RW RF RA RC), fm 8 (fPp cs pq PV), fo 13 (fTx cs tq TR TO TF TA) ip]) (px_runA (As := [.int 0]) (rest := []) S (c_Txp_answer l D cs hx (TR ip) (fun _ _ => none) hp1 (TF ip) (TA ip) 0  (show TxOk ((TF ip) 4) ((TF ip) 5) ((TF ip) 8) ((TF ip) 9) ((TF ip) 17) 0 ((TA ip) 2) from ⟨(by first | exact lk | exact lk_eq lk (by omega) | exact lk_mk (by omega)), ⟨by omega, by omega⟩, ⟨by omega, by omega⟩, ⟨by omega, by omega⟩, by omega, ⟨by decide, by decide⟩, (by show _ + _ + (0 : Int) ≤ 100; omega), hrt⟩) _) hT (pr := [wd_Ker cs hk kr (fun _ => none) kf ka (gKe pq pz tq rq), fm 13 (fRw cs rq RR RM RW RF RA RC), fm 8 (fPp cs pq PV), fo 13 (fTx cs tq TR TO TF TA) ip]) (pcs := [wd_Txp cs hx (TR ip) (fun k => if k = 3 then (some hp1) else none) (TF ip) (TA ip) (fun _ _ => none)]) hw px_X.tt (C := "HomeSystem$TextProcess") (owner := "HomeSystem$AnyProcess") (x := ⟨"HomeSystem$AnyProcess", "answer", "(I)V"⟩) (px_recv hT hw 4 0 rfl rfl rfl) m8_75 m8_67 m8_69 m8_74 m8_73 m1_35 m8_68n ⟨by decide, by decide⟩ rfl q_Txp_answer ⟨Nat.le_of_ble_eq_true rfl, Nat.le_of_ble_eq_true rfl⟩ hl.1 rfl (Nat.le_of_ble_eq_true rfl) d_Ker_receive_64 ⟨show 0 + 0 ≤ (5 * ndS 13 tq + 4 * ndS 13 rq + ndS 13 RM) from (by first | exact oz_9c199dfd7f | omega), show 0 + 0 ≤ (9804 * ndS 13 tq + 342 * ndS 13 rq + 36864 * ndS 13 RM) from (by first | exact oz_54615505fb | omega)⟩) hw hA (fun p68 H locs hp68 hw => ?_)
              obtain ⟨f66, a67, rfl, e70, e71, e72, e73, e74, e75⟩ := hp68
              have e70 : TxOk (f66 4) (f66 5) (f66 8) (f66 9) (f66 17) (f66 21) (a67 2) := e70
              obtain ⟨lk, ⟨i2, i3⟩, ⟨i4, i5⟩, ⟨i6, i7⟩, i8, ⟨i9, i11⟩, i10, hrt⟩ := e70
              have e71 : (f66 9).toInt = ((TF ip) 9).toInt := e71
              have e72 : (f66 17).toInt = ((TF ip) 17).toInt := e72
              have e73 : (f66 21).toInt = 0 := e73
              have e74 : (f66 15).toInt = ((TF ip) 15).toInt := e74
              have e75 : (f66 20).toInt = ((TF ip) 20).toInt := e75
              have hw : pw D A s.heap H locs [wd_Ker cs hk kr (fun _ => none) kf ka (gKe pq pz tq rq), fm 13 (fRw cs rq RR RM RW RF RA RC), fm 8 (fPp cs pq PV), fo 13 (fTx cs tq TR TO TF TA) ip, wd_Txp cs hx (TR ip) (fun k => if k = 3 then (some hp1) else none) f66 a67 (fun _ _ => none)] := hw
              refine lv_iload S.x S.b d_Ker_receive_67 (lv_at hl 0 rfl) ?_
              have hw := ftx_in0 (pr := [wd_Ker cs hk kr (fun _ => none) kf ka (gKe pq pz tq rq), fm 13 (fRw cs rq RR RM RW RF RA RC), fm 8 (fPp cs pq PV)]) hw hip hcu.1 hto1
              obtain ⟨TF76, hu_TF76⟩ : ∃ y : Nat → Nat → Int32, y = va_up TF ip f66 := ⟨_, rfl⟩
              obtain ⟨TA77, hu_TA77⟩ : ∃ y : Nat → Nat → Nat → Int32, y = va_up TA ip a67 := ⟨_, rfl⟩
              have hw : pw D A s.heap _ _ [wd_Ker cs hk kr (fun _ => none) kf ka (gKe pq pz tq rq), fm 13 (fRw cs rq RR RM RW RF RA RC), fm 8 (fPp cs pq PV), fm 13 (fTx cs tq TR TO TF76 TA77)] := (by rw [hu_TF76, hu_TA77]; exact hw)
              have hki : KnI pq PV pz tq rq TO TF76 TA77 RW RF := (by rw [hu_TF76, hu_TA77]; exact hki.upT (show TxN ip f66 a67 from ⟨(show TxOk (f66 4) (f66 5) (f66 8) (f66 9) (f66 17) (f66 21) (a67 2) from ⟨(by first | exact lk | exact lk_eq lk (by omega) | exact lk_mk (by omega)), ⟨by omega, by omega⟩, ⟨by omega, by omega⟩, ⟨by omega, by omega⟩, by omega, ⟨by omega, by omega⟩, by omega, hrt⟩), (show ((f66 15).toInt) = ((ip : Nat) : Int) from by omega), (show 0 ≤ (f66 20).toInt ∧ (f66 20).toInt ≤ 3 ∧ ((f66 20).toInt = 0 ∨ 3 * ((ip : Nat) : Int) + (f66 20).toInt ≤ 12) from by omega)⟩))
              have hz21_TF76 : (TF76 ip 21).toInt = (f66 21).toInt := (by rw [hu_TF76, va_up_s]; try rfl)
              have hw : pw D A s.heap _ _ [wd_Ker cs hk kr (fun _ => none) kf ka (gKe pq pz tq rq), fm 13 (fTx cs tq TR TO TF76 TA77), fm 13 (fRw cs rq RR RM RW RF RA RC), fm 8 (fPp cs pq PV)] := hw.sub [0, 3, 1, 2] rfl rfl
              exact pg_iret (v := 1) S hr rfl hlk hAe hw (show 0 ≤ (5 * ndS 13 tq + 4 * ndS 13 rq + ndS 13 RM) from by first | exact oz_86e49526c7 | omega) (show 0 ≤ (9804 * ndS 13 tq + 342 * ndS 13 rq + 36864 * ndS 13 RM) from by first | exact oz_fc3b58e969 | omega) (⟨pz, tq, rq, ka, TR, TO, TF76, TA77, RR, RM, RW, RF, RA, RC, rfl, (show (1 : Int32) = 0 ∨ (1 : Int32) = 1 from by first | exact Or.inl rfl | exact Or.inr rfl | exact z_or (by omega)), (show CuT pq PV tq TO ip hx from hcu), (show KnI pq PV pz tq rq TO TF76 TA77 RW RF from hki), (show RoI ka from hro), (show RmI rq RM from hrm), (show 0 + (5 * ndS 13 tq + 4 * ndS 13 rq + ndS 13 RM) ≤ 5 * ndS 13 tq + 4 * ndS 13 rq + ndS 13 RM from by first | exact oz_9d19b050ad | omega), (show 0 + (9804 * ndS 13 tq + 342 * ndS 13 rq + 36864 * ndS 13 RM) ≤ 9804 * ndS 13 tq + 342 * ndS 13 rq + 36864 * ndS 13 RM from by first | exact oz_b5592d0ae7 | omega)⟩) d_Ker_receive_69
  · have nc2 : p0.toInt = (-1 : Int) := (i_eq (x := p0) (y := (-1))).mp c2
    refine lv_aload_n S.x S.b d_Ker_receive_5 rfl (lv_at hl 1 rfl) ?_
    refine lv_iconst (v := 2) S.x S.b d_Ker_receive_6 (by decide) ?_
    refine lv_iconst (v := 0) S.x S.b d_Ker_receive_7 (by decide) ?_
    have hw : pw D A s.heap _ _ [wd_Ker cs hk kr (fun _ => none) kf ka (gKe pq pz tq rq), fm 13 (fRw cs rq RR RM RW RF RA RC), fm 8 (fPp cs pq PV), fm 13 (fTx cs tq TR TO TF TA)] := hw.sub [0, 2, 3, 1] rfl rfl
    have hw : pw D A s.heap _ _ [wd_Ker cs hk kr (fun _ => none) kf ka (gKe pq pz tq rq), fm 13 (fRw cs rq RR RM RW RF RA RC), fm 8 (fPp cs pq PV), fo 13 (fTx cs tq TR TO TF TA) ip, wd_Txp cs hx (TR ip) (fun k => if k = 3 then (some hp1) else none) (TF ip) (TA ip) (fun _ _ => none)] := ftx_out (pr := [wd_Ker cs hk kr (fun _ => none) kf ka (gKe pq pz tq rq), fm 13 (fRw cs rq RR RM RW RF RA RC), fm 8 (fPp cs pq PV)]) hw hip hcu.1 hto1
    have htn78 : TxN ip (TF ip) (TA ip) := hki.2.1 ip hip _ hcu.1
    obtain ⟨lk, ⟨i2, i3⟩, ⟨i4, i5⟩, ⟨i6, i7⟩, i8, ⟨i9, i11⟩, i10, hrt⟩ := htn78.1
    have hid78 := htn78.2.1
    have hch78 := htn78.2.2
    unfold KcI at hch78
    refine px_callv (pr := [wd_Ker cs hk kr (fun _ => none) kf ka (gKe pq pz tq rq), fm 13 (fRw cs rq RR RM RW RF RA RC), fm 8 (fPp cs pq PV), fo 13 (fTx cs tq TR TO TF TA) ip]) (px_runU (As := [.int 2, .int 0]) (rest := []) S (c_finish_Txp l D cs hx (TR ip) (fun _ _ => none) hp1 (TF ip) (TA ip) 2 0  (show TxOk ((TF ip) 4) ((TF ip) 5) ((TF ip) 8) ((TF ip) 9) ((TF ip) 17) ((TF ip) 21) ((TA ip) 2) from ⟨(by first | exact lk | exact lk_eq lk (by omega) | exact lk_mk (by omega)), ⟨by omega, by omega⟩, ⟨by omega, by omega⟩, ⟨by omega, by omega⟩, by omega, ⟨by first | exact oz_1b364b1c5f g1 | omega, by first | exact oz_02032f9386 g1 | omega⟩, by omega, hrt⟩) _) hT (pr := [wd_Ker cs hk kr (fun _ => none) kf ka (gKe pq pz tq rq), fm 13 (fRw cs rq RR RM RW RF RA RC), fm 8 (fPp cs pq PV), fo 13 (fTx cs tq TR TO TF TA) ip]) (pcs := [wd_Txp cs hx (TR ip) (fun k => if k = 3 then (some hp1) else none) (TF ip) (TA ip) (fun _ _ => none)]) hw px_X.tt (C := "HomeSystem$TextProcess") (x := ⟨"HomeSystem$AnyProcess", "finish", "(II)V"⟩) (px_recv hT hw 4 0 rfl rfl rfl) m8_89 m8_84 m8_86 m8_85 m8_88 m1_33 rfl q_HomeSystem_AnyProcess_finish ⟨Nat.le_of_ble_eq_true rfl, Nat.le_of_ble_eq_true rfl⟩ hl.1 rfl (Nat.le_of_ble_eq_true rfl) d_Ker_receive_8 ⟨show 0 + 0 ≤ (5 * ndS 13 tq + 4 * ndS 13 rq + ndS 13 RM) from (by first | exact oz_9c199dfd7f | omega), show 0 + 0 ≤ (9804 * ndS 13 tq + 342 * ndS 13 rq + 36864 * ndS 13 RM) from (by first | exact oz_54615505fb | omega)⟩) hw hA (fun p81 H locs hp81 hw => ?_)
    obtain ⟨f79, a80, rfl, h89, e83, e84, e85, e86, e87, e88⟩ := hp81
    obtain ⟨lk, ⟨i2, i3⟩, ⟨i4, i5⟩, ⟨i6, i7⟩, i8, ⟨i9, i11⟩, i10, hrt⟩ := h89
    have e83 : (f79 9).toInt = ((TF ip) 9).toInt := e83
    have e84 : (f79 17).toInt = ((TF ip) 17).toInt := e84
    have e85 : (f79 21).toInt = 0 := e85
    have e86 : (f79 15).toInt = ((TF ip) 15).toInt := e86
    have e87 : (f79 20).toInt = ((TF ip) 20).toInt := e87
    have e88 : R_finish_Txp (2 : Int32) (0 : Int32) (TF ip) (TA ip) f79 a80 := e88
    have hw : pw D A s.heap H locs [wd_Ker cs hk kr (fun _ => none) kf ka (gKe pq pz tq rq), fm 13 (fRw cs rq RR RM RW RF RA RC), fm 8 (fPp cs pq PV), fo 13 (fTx cs tq TR TO TF TA) ip, wd_Txp cs hx (TR ip) (fun k => if k = 3 then (some hp1) else none) f79 a80 (fun _ _ => none)] := hw
    refine lv_iconst (v := 1) S.x S.b d_Ker_receive_11 (by decide) ?_
    have hw := ftx_in0 (pr := [wd_Ker cs hk kr (fun _ => none) kf ka (gKe pq pz tq rq), fm 13 (fRw cs rq RR RM RW RF RA RC), fm 8 (fPp cs pq PV)]) hw hip hcu.1 hto1
    obtain ⟨TF90, hu_TF90⟩ : ∃ y : Nat → Nat → Int32, y = va_up TF ip f79 := ⟨_, rfl⟩
    obtain ⟨TA91, hu_TA91⟩ : ∃ y : Nat → Nat → Nat → Int32, y = va_up TA ip a80 := ⟨_, rfl⟩
    have hw : pw D A s.heap _ _ [wd_Ker cs hk kr (fun _ => none) kf ka (gKe pq pz tq rq), fm 13 (fRw cs rq RR RM RW RF RA RC), fm 8 (fPp cs pq PV), fm 13 (fTx cs tq TR TO TF90 TA91)] := (by rw [hu_TF90, hu_TA91]; exact hw)
    have hki : KnI pq PV pz tq rq TO TF90 TA91 RW RF := (by rw [hu_TF90, hu_TA91]; exact hki.upT (show TxN ip f79 a80 from ⟨(show TxOk (f79 4) (f79 5) (f79 8) (f79 9) (f79 17) (f79 21) (a80 2) from ⟨(by first | exact lk | exact lk_eq lk (by omega) | exact lk_mk (by omega)), ⟨by omega, by omega⟩, ⟨by omega, by omega⟩, ⟨by omega, by omega⟩, by omega, ⟨by omega, by omega⟩, by omega, hrt⟩), (show ((f79 15).toInt) = ((ip : Nat) : Int) from by omega), (show 0 ≤ (f79 20).toInt ∧ (f79 20).toInt ≤ 3 ∧ ((f79 20).toInt = 0 ∨ 3 * ((ip : Nat) : Int) + (f79 20).toInt ≤ 12) from by omega)⟩))
    have hz21_TF90 : (TF90 ip 21).toInt = (f79 21).toInt := (by rw [hu_TF90, va_up_s]; try rfl)
    have hw : pw D A s.heap _ _ [wd_Ker cs hk kr (fun _ => none) kf ka (gKe pq pz tq rq), fm 13 (fTx cs tq TR TO TF90 TA91), fm 13 (fRw cs rq RR RM RW RF RA RC), fm 8 (fPp cs pq PV)] := hw.sub [0, 3, 1, 2] rfl rfl
    exact pg_iret (v := 1) S hr rfl hlk hAe hw (show 0 ≤ (5 * ndS 13 tq + 4 * ndS 13 rq + ndS 13 RM) from by first | exact oz_86e49526c7 | omega) (show 0 ≤ (9804 * ndS 13 tq + 342 * ndS 13 rq + 36864 * ndS 13 RM) from by first | exact oz_fc3b58e969 | omega) (⟨pz, tq, rq, ka, TR, TO, TF90, TA91, RR, RM, RW, RF, RA, RC, rfl, (show (1 : Int32) = 0 ∨ (1 : Int32) = 1 from by first | exact Or.inl rfl | exact Or.inr rfl | exact z_or (by omega)), (show CuT pq PV tq TO ip hx from hcu), (show KnI pq PV pz tq rq TO TF90 TA91 RW RF from hki), (show RoI ka from hro), (show RmI rq RM from hrm), (show 0 + (5 * ndS 13 tq + 4 * ndS 13 rq + ndS 13 RM) ≤ 5 * ndS 13 tq + 4 * ndS 13 rq + ndS 13 RM from by first | exact oz_9d19b050ad | omega), (show 0 + (9804 * ndS 13 tq + 342 * ndS 13 rq + 36864 * ndS 13 RM) ≤ 9804 * ndS 13 tq + 342 * ndS 13 rq + 36864 * ndS 13 RM from by first | exact oz_b5592d0ae7 | omega)⟩) d_Ker_receive_12
set_option maxHeartbeats 4000000 in
set_option maxRecDepth 100000 in
theorem c_k_receive_R (l : Launch) (D : va_G) (cs : Nat → ClassId) (hk : Nat) (kr : Nat → Nat) (pq : Nat → Option Nat) (kf : Nat → Int32) (PV : Nat → Pvs) (pz : Nat → Option Nat) (tq : Nat → Option Nat) (rq : Nat → Option Nat) (ka : Nat → Nat → Int32) (TR : Nat → Nat → Nat) (TO : Nat → Option Nat) (TF : Nat → Nat → Int32) (TA : Nat → Nat → Nat → Int32) (RR : Nat → Nat → Nat) (RM : Nat → Option Nat) (RW : Nat → Option Nat) (RF : Nat → Nat → Int32) (RA : Nat → Nat → Nat → Int32) (RC : Nat → Nat → Int32) (p0 p1 : Int32) (ip hx : Nat) (g0 : p0.toInt = -1 ∨ (0 ≤ p0.toInt ∧ p0.toInt ≤ 12 ∧ 0 ≤ p1.toInt ∧ p1.toInt ≤ 25)) (g1 : (RF ip 14).toInt = 1) (hki : KnI pq PV pz tq rq TO TF TA RW RF) (hro : RoI ka) (hrm : RmI rq RM) (hip : ip < 13) (hcu : CuR pq PV rq RW ip hx) : MgI l y_Ker_receive b_Ker_receive 6 (.boolean) D cs 4 160 ((5 * ndS 13 tq + 4 * ndS 13 rq + ndS 13 RM)) ((9804 * ndS 13 tq + 342 * ndS 13 rq + 36864 * ndS 13 RM)) [.ref hk, .ref hx, .int p0, .int p1] [wd_Ker cs hk kr (fun _ => none) kf ka (gKe pq pz tq rq), fm 13 (fTx cs tq TR TO TF TA), fm 13 (fRw cs rq RR RM RW RF RA RC), fm 8 (fPp cs pq PV)] (fun _ => True) (fun v ps => ∃ (pz' : Nat → Option Nat) (tq' : Nat → Option Nat) (rq' : Nat → Option Nat) (ka' : Nat → Nat → Int32) (TR' : Nat → Nat → Nat) (TO' : Nat → Option Nat) (TF' : Nat → Nat → Int32) (TA' : Nat → Nat → Nat → Int32) (RR' : Nat → Nat → Nat) (RM' : Nat → Option Nat) (RW' : Nat → Option Nat) (RF' : Nat → Nat → Int32) (RA' : Nat → Nat → Nat → Int32) (RC' : Nat → Nat → Int32), (ps.1 = [wd_Ker cs hk kr (fun _ => none) kf ka' (gKe pq pz' tq' rq'), fm 13 (fTx cs tq' TR' TO' TF' TA'), fm 13 (fRw cs rq' RR' RM' RW' RF' RA' RC'), fm 8 (fPp cs pq PV)]) ∧ (v = 0 ∨ v = 1) ∧ (CuR pq PV rq' RW' ip hx) ∧ (KnI pq PV pz' tq' rq' TO' TF' TA' RW' RF') ∧ (RoI ka') ∧ (RmI rq' RM') ∧ (ps.2.1 + (5 * ndS 13 tq' + 4 * ndS 13 rq' + ndS 13 RM') ≤ 5 * ndS 13 tq + 4 * ndS 13 rq + ndS 13 RM) ∧ (ps.2.2 + (9804 * ndS 13 tq' + 342 * ndS 13 rq' + 36864 * ndS 13 RM') ≤ 9804 * ndS 13 tq + 342 * ndS 13 rq + 36864 * ndS 13 RM)) := by
  refine pg_enter (by decide) (Nat.le_of_ble_eq_true rfl) ?_
  intro p e s m below meth c A ls hAe S hr hlk hnm hA hT hX hw hl
  have hl : lv_has ls 6 [(0, .ref hk), (1, .ref hx), (2, .int p0), (3, .int p1)] := hl
  have lp0 := Int32.le_toInt p0
  have up0 := Int32.toInt_lt p0
  have lp1 := Int32.le_toInt p1
  have up1 := Int32.toInt_lt p1
  have cstm1 : ((-1) : Int32).toInt = (-1) := rfl
  have cst0 : (0 : Int32).toInt = 0 := rfl
  have cst1 : (1 : Int32).toInt = 1 := rfl
  have cst2 : (2 : Int32).toInt = 2 := rfl
  have cst4 : (4 : Int32).toInt = 4 := rfl
  refine lv_iload_n S.x S.b d_Ker_receive_0 rfl (lv_at hl 2 rfl) ?_
  obtain ⟨j1, hp1, hj1, hjq1, hto1⟩ := hcu.2
  refine lv_iconst (v := (-1)) S.x S.b d_Ker_receive_1 (by decide) ?_
  refine lv_icmp_ne (tgt := 13) S.x S.b d_Ker_receive_2 (by decide) (fun c2 => ?_) (fun c2 => ?_)
  · have nc2 : ¬ p0.toInt = (-1 : Int) := mt (i_eq (x := p0) (y := (-1))).mpr c2
    refine lv_aload_n S.x S.b d_Ker_receive_13 rfl (lv_at hl 1 rfl) ?_
    have hw : pw D A s.heap _ _ [wd_Ker cs hk kr (fun _ => none) kf ka (gKe pq pz tq rq), fm 13 (fTx cs tq TR TO TF TA), fm 8 (fPp cs pq PV), fm 13 (fRw cs rq RR RM RW RF RA RC)] := hw.sub [0, 1, 3, 2] rfl rfl
    have hw : pw D A s.heap _ _ [wd_Ker cs hk kr (fun _ => none) kf ka (gKe pq pz tq rq), fm 13 (fTx cs tq TR TO TF TA), fm 8 (fPp cs pq PV), fo 13 (fRw cs rq RR RM RW RF RA RC) ip, wd_Raw cs hx (RR ip) (fun k => if k = 2 then (RM ip) else if k = 4 then (some ((PV j1).r 1)) else none) (RF ip) (RA ip) (fun _ _ => none), nA cs (RM ip) 36864 (RC ip)] := frw_out (pr := [wd_Ker cs hk kr (fun _ => none) kf ka (gKe pq pz tq rq), fm 13 (fTx cs tq TR TO TF TA), fm 8 (fPp cs pq PV)]) hw hip hcu.1 hto1
    have hng4 := ndS_ge 13 RM ip hip
    have hrn4 : RwN ip (RF ip) := hki.2.2.1 ip hip _ hcu.1
    have hro4 := hrn4.1
    unfold RwO at hro4
    have hid4 := hrn4.2.1
    have hch4 := hrn4.2.2
    unfold KcI at hch4
    refine px_get S k_Raw hT hw 4 0 15 (v := .int ((RF ip) 15)) rfl rfl rfl (by decide) m6_158 d_Ker_receive_14 ?_
    refine lv_iconst (v := 4) S.x S.b d_Ker_receive_17 (by decide) ?_
    refine lv_icmp_ne (tgt := 25) S.x S.b d_Ker_receive_18 (by decide) (fun c5 => ?_) (fun c5 => ?_)
    · have nc5 : ¬ ((RF ip) 15).toInt = (4 : Int) := mt (i_eq (x := ((RF ip) 15)) (y := 4)).mpr c5
      refine lv_iconst (v := 0) S.x S.b d_Ker_receive_25 (by decide) ?_
      refine lv_istore (lv' := [(4, .int 0), (0, .ref hk), (1, .ref hx), (2, .int p0), (3, .int p1)]) S.x S.b d_Ker_receive_26 hl (by decide) rfl (fun ls hl => ?_)
      refine lv_aload_n S.x S.b d_Ker_receive_28 rfl (lv_at hl 1 rfl) ?_
      refine px_get S k_Ker hT hw 0 0 7 (v := .ref (kr 7)) rfl rfl rfl (by decide) m2_228 d_Ker_receive_29 ?_
      refine lv_iload_n S.x S.b d_Ker_receive_32 rfl (lv_at hl 4 rfl) ?_
      refine px_iald S hT hw 0 8 (n := 26) (f := (ka 7)) rfl (ga_Ker_7 _ _ _ _ _ _ _) (x := p1) (vp_in_iff.mpr (by constructor <;> omega)) d_Ker_receive_33 ?_
      refine lv_topi (fun z7 ez7 => ?_)
      have lz7 := Int32.le_toInt z7
      have uz7 := Int32.toInt_lt z7
      have qz7 := hro.at7 (x := p1) (by omega) (by omega) ez7
      refine lv_if_ne (tgt := 70) S.x S.b d_Ker_receive_34 (by decide) (fun c8 => ?_) (fun c8 => ?_)
      · have nc8 : ¬ z7.toInt = (0 : Int) := mt (i_eq (x := z7) (y := 0)).mpr c8
        refine lv_iload S.x S.b d_Ker_receive_70 (lv_at hl 0 rfl) ?_
        refine lv_if_eq (tgt := 82) S.x S.b d_Ker_receive_72 (by decide) (fun c10 => ?_) (fun c10 => ?_)
        ·
          refine lv_aload_n S.x S.b d_Ker_receive_82 rfl (lv_at hl 1 rfl) ?_
          refine px_get S k_Ker hT hw 0 0 5 (v := .ref (kr 5)) rfl rfl rfl (by decide) m2_226 d_Ker_receive_83 ?_
          refine lv_iconst (v := 4) S.x S.b d_Ker_receive_86 (by decide) ?_
          refine lv_iload_n S.x S.b d_Ker_receive_87 rfl (lv_at hl 4 rfl) ?_
          refine lv_imul S.x S.b d_Ker_receive_88 ?_
          refine lv_topi (fun z11 ez11 => ?_)
          have lz11 := Int32.le_toInt z11
          have uz11 := Int32.toInt_lt z11
          have tz11 : -2147483648 ≤ 4 * p1.toInt → 4 * p1.toInt < 2147483648 → z11.toInt = 4 * p1.toInt := by rw [ez11]; exact i_mulc 4 p1 (by decide)
          try replace tz11 : z11.toInt = 4 * p1.toInt := by omega
          refine lv_aload_n S.x S.b d_Ker_receive_89 rfl (lv_at hl 1 rfl) ?_
          refine px_get S k_Ker hT hw 0 0 6 (v := .ref (kr 6)) rfl rfl rfl (by decide) m2_227 d_Ker_receive_90 ?_
          refine lv_iload_n S.x S.b d_Ker_receive_93 rfl (lv_at hl 4 rfl) ?_
          refine px_iald S hT hw 0 7 (n := 26) (f := (ka 6)) rfl (ga_Ker_6 _ _ _ _ _ _ _) (x := p1) (vp_in_iff.mpr (by constructor <;> omega)) d_Ker_receive_94 ?_
          refine lv_topi (fun z12 ez12 => ?_)
          have lz12 := Int32.le_toInt z12
          have uz12 := Int32.toInt_lt z12
          have qz12 := hro.at6 (x := p1) (by omega) (by omega) ez12
          refine lv_iadd S.x S.b d_Ker_receive_95 ?_
          refine lv_topi (fun z13 ez13 => ?_)
          have tz13 : z13.toInt = (z11.toInt + z12.toInt + 2147483648) % 4294967296 - 2147483648 := by rw [ez13]; exact i_add z11 z12
          have lz13 := Int32.le_toInt z13
          have uz13 := Int32.toInt_lt z13
          try replace tz13 : z13.toInt = z11.toInt + z12.toInt := by omega
          refine px_iald S hT hw 0 6 (n := 104) (f := (ka 5)) rfl (ga_Ker_5 _ _ _ _ _ _ _) (x := z13) (vp_in_iff.mpr (by constructor <;> omega)) d_Ker_receive_96 ?_
          refine lv_topi (fun z14 ez14 => ?_)
          have lz14 := Int32.le_toInt z14
          have uz14 := Int32.toInt_lt z14
          refine lv_istore (lv' := [(5, .int z14), (4, .int 0), (0, .ref hk), (1, .ref hx), (2, .int p0), (3, .int p1)]) S.x S.b d_Ker_receive_97 hl (by decide) rfl (fun ls hl => ?_)
          refine lv_aload_n S.x S.b d_Ker_receive_99 rfl (lv_at hl 2 rfl) ?_
          refine px_get S k_Ker hT hw 0 0 6 (v := .ref (kr 6)) rfl rfl rfl (by decide) m2_227 d_Ker_receive_100 ?_
          refine lv_iload_n S.x S.b d_Ker_receive_103 rfl (lv_at hl 5 rfl) ?_
          refine lv_aload_n S.x S.b d_Ker_receive_104 rfl (lv_at hl 2 rfl) ?_
          refine px_get S k_Ker hT hw 0 0 6 (v := .ref (kr 6)) rfl rfl rfl (by decide) m2_227 d_Ker_receive_105 ?_
          refine lv_iload_n S.x S.b d_Ker_receive_108 rfl (lv_at hl 5 rfl) ?_
          refine px_iald S hT hw 0 7 (n := 26) (f := (ka 6)) rfl (ga_Ker_6 _ _ _ _ _ _ _) (x := p1) (vp_in_iff.mpr (by constructor <;> omega)) d_Ker_receive_109 ?_
          refine lv_topi (fun z15 ez15 => ?_)
          have lz15 := Int32.le_toInt z15
          have uz15 := Int32.toInt_lt z15
          have qz15 := hro.at6 (x := p1) (by omega) (by omega) ez15
          refine lv_iconst (v := 1) S.x S.b d_Ker_receive_110 (by decide) ?_
          refine lv_iadd S.x S.b d_Ker_receive_111 ?_
          refine lv_topi (fun z16 ez16 => ?_)
          have tz16 : z16.toInt = (z15.toInt + (1 : Int) + 2147483648) % 4294967296 - 2147483648 := by rw [ez16]; exact i_add z15 1
          have lz16 := Int32.le_toInt z16
          have uz16 := Int32.toInt_lt z16
          try replace tz16 : z16.toInt = z15.toInt + (1 : Int) := by omega
          refine lv_iconst (v := 4) S.x S.b d_Ker_receive_112 (by decide) ?_
          refine lv_irem S.x S.b d_Ker_receive_113 (by decide) ?_
          refine lv_topi (fun z17 ez17 => ?_)
          have lz17 := Int32.le_toInt z17
          have uz17 := Int32.toInt_lt z17
          have tz17 : 0 ≤ z16.toInt → z17.toInt = z16.toInt % 4 := (by intro h9; rw [ez17]; exact i_irem9 h9 (y := 4) (d := 4) (by decide) (by decide))
          try replace tz17 := tz17 (by omega)
          refine px_iast S hT hw 0 7 (n := 26) (f := (ka 6)) (x := p1) (y := z17) rfl (ga_Ker_6 _ _ _ _ _ _ _) (vp_in_iff.mpr (by constructor <;> omega)) d_Ker_receive_114 (w' := wd_Ker cs hk kr (fun _ => none) kf (va_up ka 6 (upd (ka 6) p1.toNatClampNeg z17)) (gKe pq pz tq rq)) (ps' := [wd_Ker cs hk kr (fun _ => none) kf (va_up ka 6 (upd (ka 6) p1.toNatClampNeg z17)) (gKe pq pz tq rq), fm 13 (fTx cs tq TR TO TF TA), fm 8 (fPp cs pq PV), fo 13 (fRw cs rq RR RM RW RF RA RC) ip, wd_Raw cs hx (RR ip) (fun k => if k = 2 then (RM ip) else if k = 4 then (some ((PV j1).r 1)) else none) (RF ip) (RA ip) (fun _ _ => none), nA cs (RM ip) 36864 (RC ip)]) (sa_Ker_6 _ _ _ _ _ _ _ _) rfl (fun H locs hw => ?_)
          have hro : RoI (va_up ka 6 (upd (ka 6) p1.toNatClampNeg z17)) := hro.up6 (by omega) (by omega)
          refine lv_aload_n S.x S.b d_Ker_receive_115 rfl (lv_at hl 2 rfl) ?_
          refine px_get S k_Ker hT hw 0 0 7 (v := .ref (kr 7)) rfl rfl rfl (by decide) m2_228 d_Ker_receive_116 ?_
          refine lv_iload_n S.x S.b d_Ker_receive_119 rfl (lv_at hl 5 rfl) ?_
          refine lv_dup2_11 S.x S.b d_Ker_receive_120 rfl rfl ?_
          refine px_iald S hT hw 0 8 (n := 26) (f := ((va_up ka 6 (upd (ka 6) p1.toNatClampNeg z17)) 7)) rfl (ga_Ker_7 _ _ _ _ _ _ _) (x := p1) (vp_in_iff.mpr (by constructor <;> omega)) d_Ker_receive_121 ?_
          refine lv_topi (fun z18 ez18 => ?_)
          have lz18 := Int32.le_toInt z18
          have uz18 := Int32.toInt_lt z18
          have qz18 := hro.at7 (x := p1) (by omega) (by omega) ez18
          have hlnk : z18.toInt = z7.toInt := (by rw [ez18, ez7, va_up_n (by decide)])
          refine lv_iconst (v := 1) S.x S.b d_Ker_receive_122 (by decide) ?_
          refine lv_isub S.x S.b d_Ker_receive_123 ?_
          refine lv_topi (fun z19 ez19 => ?_)
          have tz19 : z19.toInt = (z18.toInt - (1 : Int) + 2147483648) % 4294967296 - 2147483648 := by rw [ez19]; exact i_sub z18 1
          have lz19 := Int32.le_toInt z19
          have uz19 := Int32.toInt_lt z19
          try replace tz19 : z19.toInt = z18.toInt - (1 : Int) := by omega
          refine px_iast S hT hw 0 8 (n := 26) (f := ((va_up ka 6 (upd (ka 6) p1.toNatClampNeg z17)) 7)) (x := p1) (y := z19) rfl (ga_Ker_7 _ _ _ _ _ _ _) (vp_in_iff.mpr (by constructor <;> omega)) d_Ker_receive_124 (w' := wd_Ker cs hk kr (fun _ => none) kf (va_up (va_up ka 6 (upd (ka 6) p1.toNatClampNeg z17)) 7 (upd ((va_up ka 6 (upd (ka 6) p1.toNatClampNeg z17)) 7) p1.toNatClampNeg z19)) (gKe pq pz tq rq)) (ps' := [wd_Ker cs hk kr (fun _ => none) kf (va_up (va_up ka 6 (upd (ka 6) p1.toNatClampNeg z17)) 7 (upd ((va_up ka 6 (upd (ka 6) p1.toNatClampNeg z17)) 7) p1.toNatClampNeg z19)) (gKe pq pz tq rq), fm 13 (fTx cs tq TR TO TF TA), fm 8 (fPp cs pq PV), fo 13 (fRw cs rq RR RM RW RF RA RC) ip, wd_Raw cs hx (RR ip) (fun k => if k = 2 then (RM ip) else if k = 4 then (some ((PV j1).r 1)) else none) (RF ip) (RA ip) (fun _ _ => none), nA cs (RM ip) 36864 (RC ip)]) (sa_Ker_7 _ _ _ _ _ _ _ _) rfl (fun H locs hw => ?_)
          have hro : RoI (va_up (va_up ka 6 (upd (ka 6) p1.toNatClampNeg z17)) 7 (upd ((va_up ka 6 (upd (ka 6) p1.toNatClampNeg z17)) 7) p1.toNatClampNeg z19)) := hro.up7 (by omega) (by omega)
          refine lv_aload_n S.x S.b d_Ker_receive_125 rfl (lv_at hl 3 rfl) ?_
          refine lv_iload S.x S.b d_Ker_receive_126 (lv_at hl 0 rfl) ?_
          have hw : pw D A s.heap _ _ [wd_Ker cs hk kr (fun _ => none) kf (va_up (va_up ka 6 (upd (ka 6) p1.toNatClampNeg z17)) 7 (upd ((va_up ka 6 (upd (ka 6) p1.toNatClampNeg z17)) 7) p1.toNatClampNeg z19)) (gKe pq pz tq rq), fm 13 (fTx cs tq TR TO TF TA), fm 8 (fPp cs pq PV), fo 13 (fRw cs rq RR RM RW RF RA RC) ip, nA cs (RM ip) 36864 (RC ip), wd_Raw cs hx (RR ip) (fun k => if k = 2 then (RM ip) else if k = 4 then (some ((PV j1).r 1)) else none) (RF ip) (RA ip) (fun _ _ => none)] := hw.sub [0, 1, 2, 3, 5, 4] rfl rfl
          refine px_callv (pr := [wd_Ker cs hk kr (fun _ => none) kf (va_up (va_up ka 6 (upd (ka 6) p1.toNatClampNeg z17)) 7 (upd ((va_up ka 6 (upd (ka 6) p1.toNatClampNeg z17)) 7) p1.toNatClampNeg z19)) (gKe pq pz tq rq), fm 13 (fTx cs tq TR TO TF TA), fm 8 (fPp cs pq PV), fo 13 (fRw cs rq RR RM RW RF RA RC) ip, nA cs (RM ip) 36864 (RC ip)]) (px_runA (As := [.int z14]) (rest := []) S (c_Raw_answer l D cs hx (RR ip) (fun _ _ => none) (RM ip) (some ((PV j1).r 1)) (RF ip) (RA ip) z14  (show 1 ≤ ((RF ip) 7).toInt from by omega) _) hT (pr := [wd_Ker cs hk kr (fun _ => none) kf (va_up (va_up ka 6 (upd (ka 6) p1.toNatClampNeg z17)) 7 (upd ((va_up ka 6 (upd (ka 6) p1.toNatClampNeg z17)) 7) p1.toNatClampNeg z19)) (gKe pq pz tq rq), fm 13 (fTx cs tq TR TO TF TA), fm 8 (fPp cs pq PV), fo 13 (fRw cs rq RR RM RW RF RA RC) ip, nA cs (RM ip) 36864 (RC ip)]) (pcs := [wd_Raw cs hx (RR ip) (fun k => if k = 2 then (RM ip) else if k = 4 then (some ((PV j1).r 1)) else none) (RF ip) (RA ip) (fun _ _ => none)]) hw px_X.tt (C := "HomeSystem$RawProcess") (owner := "HomeSystem$AnyProcess") (x := ⟨"HomeSystem$AnyProcess", "answer", "(I)V"⟩) (px_recv hT hw 5 0 rfl rfl rfl) m8_72 m8_67 m8_69 m8_71 m8_70 m1_34 m8_68n ⟨by decide, by decide⟩ rfl q_Raw_answer ⟨Nat.le_of_ble_eq_true rfl, Nat.le_of_ble_eq_true rfl⟩ hl.1 rfl (Nat.le_of_ble_eq_true rfl) d_Ker_receive_128 ⟨show 0 + 0 ≤ (5 * ndS 13 tq + 4 * ndS 13 rq + ndS 13 RM) from (by first | exact oz_9c199dfd7f | omega), show 0 + 0 ≤ (9804 * ndS 13 tq + 342 * ndS 13 rq + 36864 * ndS 13 RM) from (by first | exact oz_54615505fb | omega)⟩) hw hA (fun p22 H locs hp22 hw => ?_)
          obtain ⟨f20, a21, rfl, e24, e25, e26, e27, e28, e29⟩ := hp22
          have e24 : (f20 7).toInt = ((RF ip) 7).toInt - 1 := e24
          have e25 : (f20 8).toInt = ((RF ip) 8).toInt := e25
          have e26 : (f20 10).toInt = ((RF ip) 10).toInt := e26
          have e27 : (f20 13).toInt = ((RF ip) 13).toInt := e27
          have e28 : (f20 14).toInt = 0 := e28
          have e29 : (f20 11).toInt = ((RF ip) 11).toInt := e29
          have hw : pw D A s.heap H locs [wd_Ker cs hk kr (fun _ => none) kf (va_up (va_up ka 6 (upd (ka 6) p1.toNatClampNeg z17)) 7 (upd ((va_up ka 6 (upd (ka 6) p1.toNatClampNeg z17)) 7) p1.toNatClampNeg z19)) (gKe pq pz tq rq), fm 13 (fTx cs tq TR TO TF TA), fm 8 (fPp cs pq PV), fo 13 (fRw cs rq RR RM RW RF RA RC) ip, nA cs (RM ip) 36864 (RC ip), wd_Raw cs hx (RR ip) (fun k => if k = 2 then (RM ip) else if k = 4 then (some ((PV j1).r 1)) else none) f20 a21 (fun _ _ => none)] := hw
          refine lv_iconst (v := 1) S.x S.b d_Ker_receive_131 (by decide) ?_
          have hw : pw D A s.heap _ _ [wd_Ker cs hk kr (fun _ => none) kf (va_up (va_up ka 6 (upd (ka 6) p1.toNatClampNeg z17)) 7 (upd ((va_up ka 6 (upd (ka 6) p1.toNatClampNeg z17)) 7) p1.toNatClampNeg z19)) (gKe pq pz tq rq), fm 13 (fTx cs tq TR TO TF TA), fm 8 (fPp cs pq PV), fo 13 (fRw cs rq RR RM RW RF RA RC) ip, wd_Raw cs hx (RR ip) (fun k => if k = 2 then (RM ip) else if k = 4 then (some ((PV j1).r 1)) else none) f20 a21 (fun _ _ => none), nA cs (RM ip) 36864 (RC ip)] := hw.sub [0, 1, 2, 3, 5, 4] rfl rfl
          have hw := frw_in0 (pr := [wd_Ker cs hk kr (fun _ => none) kf (va_up (va_up ka 6 (upd (ka 6) p1.toNatClampNeg z17)) 7 (upd ((va_up ka 6 (upd (ka 6) p1.toNatClampNeg z17)) 7) p1.toNatClampNeg z19)) (gKe pq pz tq rq), fm 13 (fTx cs tq TR TO TF TA), fm 8 (fPp cs pq PV)]) hw hip hcu.1 hto1
          obtain ⟨RM30, hu_RM30⟩ : ∃ y : Nat → Option Nat, y = va_up RM ip (RM ip) := ⟨_, rfl⟩
          obtain ⟨RF31, hu_RF31⟩ : ∃ y : Nat → Nat → Int32, y = va_up RF ip f20 := ⟨_, rfl⟩
          obtain ⟨RA32, hu_RA32⟩ : ∃ y : Nat → Nat → Nat → Int32, y = va_up RA ip a21 := ⟨_, rfl⟩
          obtain ⟨RC33, hu_RC33⟩ : ∃ y : Nat → Nat → Int32, y = va_up RC ip (RC ip) := ⟨_, rfl⟩
          have hw : pw D A s.heap _ _ [wd_Ker cs hk kr (fun _ => none) kf (va_up (va_up ka 6 (upd (ka 6) p1.toNatClampNeg z17)) 7 (upd ((va_up ka 6 (upd (ka 6) p1.toNatClampNeg z17)) 7) p1.toNatClampNeg z19)) (gKe pq pz tq rq), fm 13 (fTx cs tq TR TO TF TA), fm 8 (fPp cs pq PV), fm 13 (fRw cs rq RR RM30 RW RF31 RA32 RC33)] := (by rw [hu_RM30, hu_RF31, hu_RA32, hu_RC33]; exact hw)
          have hki : KnI pq PV pz tq rq TO TF TA RW RF31 := (by rw [hu_RF31]; exact hki.upR (show RwN ip f20 from ⟨(show (0 ≤ (f20 7).toInt ∧ (f20 7).toInt ≤ 1600) ∧ (0 ≤ (f20 10).toInt ∧ (f20 10).toInt + (f20 7).toInt ≤ 1600) ∧ ((f20 14).toInt = 0 ∨ (f20 14).toInt = 1) ∧ ((f20 14).toInt = 1 → 1 ≤ (f20 7).toInt) from by omega), (show ((f20 8).toInt) = ((ip : Nat) : Int) from by omega), (show 0 ≤ (f20 13).toInt ∧ (f20 13).toInt ≤ 3 ∧ ((f20 13).toInt = 0 ∨ 3 * ((ip : Nat) : Int) + (f20 13).toInt ≤ 12) from by omega)⟩))
          have hrm : RmI rq RM30 := (by rw [hu_RM30]; exact hrm.up hcu.1)
          have hnd_RM30 := ndS_up 13 RM ip (RM ip) hip; rw [← hu_RM30] at hnd_RM30
          have hz14_RF31 : (RF31 ip 14).toInt = (f20 14).toInt := (by rw [hu_RF31, va_up_s]; try rfl)
          have hw : pw D A s.heap _ _ [wd_Ker cs hk kr (fun _ => none) kf (va_up (va_up ka 6 (upd (ka 6) p1.toNatClampNeg z17)) 7 (upd ((va_up ka 6 (upd (ka 6) p1.toNatClampNeg z17)) 7) p1.toNatClampNeg z19)) (gKe pq pz tq rq), fm 13 (fTx cs tq TR TO TF TA), fm 13 (fRw cs rq RR RM30 RW RF31 RA32 RC33), fm 8 (fPp cs pq PV)] := hw.sub [0, 1, 3, 2] rfl rfl
          exact pg_iret (v := 1) S hr rfl hlk hAe hw (show 0 ≤ (5 * ndS 13 tq + 4 * ndS 13 rq + ndS 13 RM) from by first | exact oz_86e49526c7 | omega) (show 0 ≤ (9804 * ndS 13 tq + 342 * ndS 13 rq + 36864 * ndS 13 RM) from by first | exact oz_fc3b58e969 | omega) (⟨pz, tq, rq, (va_up (va_up ka 6 (upd (ka 6) p1.toNatClampNeg z17)) 7 (upd ((va_up ka 6 (upd (ka 6) p1.toNatClampNeg z17)) 7) p1.toNatClampNeg z19)), TR, TO, TF, TA, RR, RM30, RW, RF31, RA32, RC33, rfl, (show (1 : Int32) = 0 ∨ (1 : Int32) = 1 from by first | exact Or.inl rfl | exact Or.inr rfl | exact z_or (by omega)), (show CuR pq PV rq RW ip hx from hcu), (show KnI pq PV pz tq rq TO TF TA RW RF31 from hki), (show RoI (va_up (va_up ka 6 (upd (ka 6) p1.toNatClampNeg z17)) 7 (upd ((va_up ka 6 (upd (ka 6) p1.toNatClampNeg z17)) 7) p1.toNatClampNeg z19)) from hro), (show RmI rq RM30 from hrm), (show 0 + (5 * ndS 13 tq + 4 * ndS 13 rq + ndS 13 RM30) ≤ 5 * ndS 13 tq + 4 * ndS 13 rq + ndS 13 RM from by omega), (show 0 + (9804 * ndS 13 tq + 342 * ndS 13 rq + 36864 * ndS 13 RM30) ≤ 9804 * ndS 13 tq + 342 * ndS 13 rq + 36864 * ndS 13 RM from by omega)⟩) d_Ker_receive_132
        · exact absurd c10 (by decide)
      · have nc8 : z7.toInt = (0 : Int) := (i_eq (x := z7) (y := 0)).mp c8
        refine lv_iload S.x S.b d_Ker_receive_37 (lv_at hl 0 rfl) ?_
        refine lv_if_eq (tgt := 54) S.x S.b d_Ker_receive_39 (by decide) (fun c34 => ?_) (fun c34 => ?_)
        ·
          refine lv_iconst (v := 0) S.x S.b d_Ker_receive_54 (by decide) ?_
          refine lv_istore (lv' := [(5, .int 0), (4, .int 0), (0, .ref hk), (1, .ref hx), (2, .int p0), (3, .int p1)]) S.x S.b d_Ker_receive_55 hl (by decide) rfl (fun ls hl => ?_)
          refine lv_iload S.x S.b d_Ker_receive_57 (lv_at hl 0 rfl) ?_
          refine lv_if_eq (tgt := 67) S.x S.b d_Ker_receive_59 (by decide) (fun c35 => ?_) (fun c35 => ?_)
          ·
            refine lv_iload S.x S.b d_Ker_receive_67 (lv_at hl 0 rfl) ?_
            have hw : pw D A s.heap _ _ [wd_Ker cs hk kr (fun _ => none) kf ka (gKe pq pz tq rq), fm 13 (fTx cs tq TR TO TF TA), fm 8 (fPp cs pq PV), fm 13 (fRw cs rq RR RM RW RF RA RC)] := frw_back (pr := [wd_Ker cs hk kr (fun _ => none) kf ka (gKe pq pz tq rq), fm 13 (fTx cs tq TR TO TF TA), fm 8 (fPp cs pq PV)]) hw hip hcu.1 hto1
            have hw : pw D A s.heap _ _ [wd_Ker cs hk kr (fun _ => none) kf ka (gKe pq pz tq rq), fm 13 (fTx cs tq TR TO TF TA), fm 13 (fRw cs rq RR RM RW RF RA RC), fm 8 (fPp cs pq PV)] := hw.sub [0, 1, 3, 2] rfl rfl
            exact pg_iret (v := 0) S hr rfl hlk hAe hw (show 0 ≤ (5 * ndS 13 tq + 4 * ndS 13 rq + ndS 13 RM) from by first | exact oz_86e49526c7 | omega) (show 0 ≤ (9804 * ndS 13 tq + 342 * ndS 13 rq + 36864 * ndS 13 RM) from by first | exact oz_fc3b58e969 | omega) (⟨pz, tq, rq, ka, TR, TO, TF, TA, RR, RM, RW, RF, RA, RC, rfl, (show (0 : Int32) = 0 ∨ (0 : Int32) = 1 from by first | exact Or.inl rfl | exact Or.inr rfl | exact z_or (by omega)), (show CuR pq PV rq RW ip hx from hcu), (show KnI pq PV pz tq rq TO TF TA RW RF from hki), (show RoI ka from hro), (show RmI rq RM from hrm), (show 0 + (5 * ndS 13 tq + 4 * ndS 13 rq + ndS 13 RM) ≤ 5 * ndS 13 tq + 4 * ndS 13 rq + ndS 13 RM from by first | exact oz_9d19b050ad | omega), (show 0 + (9804 * ndS 13 tq + 342 * ndS 13 rq + 36864 * ndS 13 RM) ≤ 9804 * ndS 13 tq + 342 * ndS 13 rq + 36864 * ndS 13 RM from by first | exact oz_b5592d0ae7 | omega)⟩) d_Ker_receive_69
          · exact absurd c35 (by decide)
        · exact absurd c34 (by decide)
    · have nc5 : ((RF ip) 15).toInt = (4 : Int) := (i_eq (x := ((RF ip) 15)) (y := 4)).mp c5
      refine lv_iconst (v := 1) S.x S.b d_Ker_receive_21 (by decide) ?_
      refine lv_goto (tgt := 26) S.x S.b d_Ker_receive_22 (by decide) ?_
      refine lv_istore (lv' := [(4, .int 1), (0, .ref hk), (1, .ref hx), (2, .int p0), (3, .int p1)]) S.x S.b d_Ker_receive_26 hl (by decide) rfl (fun ls hl => ?_)
      refine lv_aload_n S.x S.b d_Ker_receive_28 rfl (lv_at hl 1 rfl) ?_
      refine px_get S k_Ker hT hw 0 0 7 (v := .ref (kr 7)) rfl rfl rfl (by decide) m2_228 d_Ker_receive_29 ?_
      refine lv_iload_n S.x S.b d_Ker_receive_32 rfl (lv_at hl 4 rfl) ?_
      refine px_iald S hT hw 0 8 (n := 26) (f := (ka 7)) rfl (ga_Ker_7 _ _ _ _ _ _ _) (x := p1) (vp_in_iff.mpr (by constructor <;> omega)) d_Ker_receive_33 ?_
      refine lv_topi (fun z36 ez36 => ?_)
      have lz36 := Int32.le_toInt z36
      have uz36 := Int32.toInt_lt z36
      have qz36 := hro.at7 (x := p1) (by omega) (by omega) ez36
      refine lv_if_ne (tgt := 70) S.x S.b d_Ker_receive_34 (by decide) (fun c37 => ?_) (fun c37 => ?_)
      · have nc37 : ¬ z36.toInt = (0 : Int) := mt (i_eq (x := z36) (y := 0)).mpr c37
        refine lv_iload S.x S.b d_Ker_receive_70 (lv_at hl 0 rfl) ?_
        refine lv_if_eq (tgt := 82) S.x S.b d_Ker_receive_72 (by decide) (fun c39 => ?_) (fun c39 => ?_)
        · exact absurd c39 (by decide)
        ·
          refine lv_aload_n S.x S.b d_Ker_receive_75 rfl (lv_at hl 2 rfl) ?_
          refine lv_iconst (v := 1) S.x S.b d_Ker_receive_76 (by decide) ?_
          have hw : pw D A s.heap _ _ [wd_Ker cs hk kr (fun _ => none) kf ka (gKe pq pz tq rq), fm 13 (fTx cs tq TR TO TF TA), fm 8 (fPp cs pq PV), fo 13 (fRw cs rq RR RM RW RF RA RC) ip, nA cs (RM ip) 36864 (RC ip), wd_Raw cs hx (RR ip) (fun k => if k = 2 then (RM ip) else if k = 4 then (some ((PV j1).r 1)) else none) (RF ip) (RA ip) (fun _ _ => none)] := hw.sub [0, 1, 2, 3, 5, 4] rfl rfl
          refine px_callv (pr := [wd_Ker cs hk kr (fun _ => none) kf ka (gKe pq pz tq rq), fm 13 (fTx cs tq TR TO TF TA), fm 8 (fPp cs pq PV), fo 13 (fRw cs rq RR RM RW RF RA RC) ip, nA cs (RM ip) 36864 (RC ip)]) (px_runA (As := [.int 1]) (rest := []) S (c_Raw_answer l D cs hx (RR ip) (fun _ _ => none) (RM ip) (some ((PV j1).r 1)) (RF ip) (RA ip) 1  (show 1 ≤ ((RF ip) 7).toInt from by omega) _) hT (pr := [wd_Ker cs hk kr (fun _ => none) kf ka (gKe pq pz tq rq), fm 13 (fTx cs tq TR TO TF TA), fm 8 (fPp cs pq PV), fo 13 (fRw cs rq RR RM RW RF RA RC) ip, nA cs (RM ip) 36864 (RC ip)]) (pcs := [wd_Raw cs hx (RR ip) (fun k => if k = 2 then (RM ip) else if k = 4 then (some ((PV j1).r 1)) else none) (RF ip) (RA ip) (fun _ _ => none)]) hw px_X.tt (C := "HomeSystem$RawProcess") (owner := "HomeSystem$AnyProcess") (x := ⟨"HomeSystem$AnyProcess", "answer", "(I)V"⟩) (px_recv hT hw 5 0 rfl rfl rfl) m8_72 m8_67 m8_69 m8_71 m8_70 m1_34 m8_68n ⟨by decide, by decide⟩ rfl q_Raw_answer ⟨Nat.le_of_ble_eq_true rfl, Nat.le_of_ble_eq_true rfl⟩ hl.1 rfl (Nat.le_of_ble_eq_true rfl) d_Ker_receive_77 ⟨show 0 + 0 ≤ (5 * ndS 13 tq + 4 * ndS 13 rq + ndS 13 RM) from (by first | exact oz_9c199dfd7f | omega), show 0 + 0 ≤ (9804 * ndS 13 tq + 342 * ndS 13 rq + 36864 * ndS 13 RM) from (by first | exact oz_54615505fb | omega)⟩) hw hA (fun p42 H locs hp42 hw => ?_)
          obtain ⟨f40, a41, rfl, e44, e45, e46, e47, e48, e49⟩ := hp42
          have e44 : (f40 7).toInt = ((RF ip) 7).toInt - 1 := e44
          have e45 : (f40 8).toInt = ((RF ip) 8).toInt := e45
          have e46 : (f40 10).toInt = ((RF ip) 10).toInt := e46
          have e47 : (f40 13).toInt = ((RF ip) 13).toInt := e47
          have e48 : (f40 14).toInt = 0 := e48
          have e49 : (f40 11).toInt = ((RF ip) 11).toInt := e49
          have hw : pw D A s.heap H locs [wd_Ker cs hk kr (fun _ => none) kf ka (gKe pq pz tq rq), fm 13 (fTx cs tq TR TO TF TA), fm 8 (fPp cs pq PV), fo 13 (fRw cs rq RR RM RW RF RA RC) ip, nA cs (RM ip) 36864 (RC ip), wd_Raw cs hx (RR ip) (fun k => if k = 2 then (RM ip) else if k = 4 then (some ((PV j1).r 1)) else none) f40 a41 (fun _ _ => none)] := hw
          refine lv_iconst (v := 1) S.x S.b d_Ker_receive_80 (by decide) ?_
          have hw : pw D A s.heap _ _ [wd_Ker cs hk kr (fun _ => none) kf ka (gKe pq pz tq rq), fm 13 (fTx cs tq TR TO TF TA), fm 8 (fPp cs pq PV), fo 13 (fRw cs rq RR RM RW RF RA RC) ip, wd_Raw cs hx (RR ip) (fun k => if k = 2 then (RM ip) else if k = 4 then (some ((PV j1).r 1)) else none) f40 a41 (fun _ _ => none), nA cs (RM ip) 36864 (RC ip)] := hw.sub [0, 1, 2, 3, 5, 4] rfl rfl
          have hw := frw_in0 (pr := [wd_Ker cs hk kr (fun _ => none) kf ka (gKe pq pz tq rq), fm 13 (fTx cs tq TR TO TF TA), fm 8 (fPp cs pq PV)]) hw hip hcu.1 hto1
          obtain ⟨RM50, hu_RM50⟩ : ∃ y : Nat → Option Nat, y = va_up RM ip (RM ip) := ⟨_, rfl⟩
          obtain ⟨RF51, hu_RF51⟩ : ∃ y : Nat → Nat → Int32, y = va_up RF ip f40 := ⟨_, rfl⟩
          obtain ⟨RA52, hu_RA52⟩ : ∃ y : Nat → Nat → Nat → Int32, y = va_up RA ip a41 := ⟨_, rfl⟩
          obtain ⟨RC53, hu_RC53⟩ : ∃ y : Nat → Nat → Int32, y = va_up RC ip (RC ip) := ⟨_, rfl⟩
          have hw : pw D A s.heap _ _ [wd_Ker cs hk kr (fun _ => none) kf ka (gKe pq pz tq rq), fm 13 (fTx cs tq TR TO TF TA), fm 8 (fPp cs pq PV), fm 13 (fRw cs rq RR RM50 RW RF51 RA52 RC53)] := (by rw [hu_RM50, hu_RF51, hu_RA52, hu_RC53]; exact hw)
          have hki : KnI pq PV pz tq rq TO TF TA RW RF51 := (by rw [hu_RF51]; exact hki.upR (show RwN ip f40 from ⟨(show (0 ≤ (f40 7).toInt ∧ (f40 7).toInt ≤ 1600) ∧ (0 ≤ (f40 10).toInt ∧ (f40 10).toInt + (f40 7).toInt ≤ 1600) ∧ ((f40 14).toInt = 0 ∨ (f40 14).toInt = 1) ∧ ((f40 14).toInt = 1 → 1 ≤ (f40 7).toInt) from by omega), (show ((f40 8).toInt) = ((ip : Nat) : Int) from by omega), (show 0 ≤ (f40 13).toInt ∧ (f40 13).toInt ≤ 3 ∧ ((f40 13).toInt = 0 ∨ 3 * ((ip : Nat) : Int) + (f40 13).toInt ≤ 12) from by omega)⟩))
          have hrm : RmI rq RM50 := (by rw [hu_RM50]; exact hrm.up hcu.1)
          have hnd_RM50 := ndS_up 13 RM ip (RM ip) hip; rw [← hu_RM50] at hnd_RM50
          have hz14_RF51 : (RF51 ip 14).toInt = (f40 14).toInt := (by rw [hu_RF51, va_up_s]; try rfl)
          have hw : pw D A s.heap _ _ [wd_Ker cs hk kr (fun _ => none) kf ka (gKe pq pz tq rq), fm 13 (fTx cs tq TR TO TF TA), fm 13 (fRw cs rq RR RM50 RW RF51 RA52 RC53), fm 8 (fPp cs pq PV)] := hw.sub [0, 1, 3, 2] rfl rfl
          exact pg_iret (v := 1) S hr rfl hlk hAe hw (show 0 ≤ (5 * ndS 13 tq + 4 * ndS 13 rq + ndS 13 RM) from by first | exact oz_86e49526c7 | omega) (show 0 ≤ (9804 * ndS 13 tq + 342 * ndS 13 rq + 36864 * ndS 13 RM) from by first | exact oz_fc3b58e969 | omega) (⟨pz, tq, rq, ka, TR, TO, TF, TA, RR, RM50, RW, RF51, RA52, RC53, rfl, (show (1 : Int32) = 0 ∨ (1 : Int32) = 1 from by first | exact Or.inl rfl | exact Or.inr rfl | exact z_or (by omega)), (show CuR pq PV rq RW ip hx from hcu), (show KnI pq PV pz tq rq TO TF TA RW RF51 from hki), (show RoI ka from hro), (show RmI rq RM50 from hrm), (show 0 + (5 * ndS 13 tq + 4 * ndS 13 rq + ndS 13 RM50) ≤ 5 * ndS 13 tq + 4 * ndS 13 rq + ndS 13 RM from by omega), (show 0 + (9804 * ndS 13 tq + 342 * ndS 13 rq + 36864 * ndS 13 RM50) ≤ 9804 * ndS 13 tq + 342 * ndS 13 rq + 36864 * ndS 13 RM from by omega)⟩) d_Ker_receive_81
      · have nc37 : z36.toInt = (0 : Int) := (i_eq (x := z36) (y := 0)).mp c37
        refine lv_iload S.x S.b d_Ker_receive_37 (lv_at hl 0 rfl) ?_
        refine lv_if_eq (tgt := 54) S.x S.b d_Ker_receive_39 (by decide) (fun c54 => ?_) (fun c54 => ?_)
        · exact absurd c54 (by decide)
        ·
          refine lv_aload_n S.x S.b d_Ker_receive_42 rfl (lv_at hl 1 rfl) ?_
          refine lv_iload_n S.x S.b d_Ker_receive_43 rfl (lv_at hl 3 rfl) ?_
          have hw : pw D A s.heap _ _ [wd_Ker cs hk kr (fun _ => none) kf ka (gKe pq pz tq rq), fm 13 (fTx cs tq TR TO TF TA), fm 8 (fPp cs pq PV), fm 13 (fRw cs rq RR RM RW RF RA RC)] := frw_back (pr := [wd_Ker cs hk kr (fun _ => none) kf ka (gKe pq pz tq rq), fm 13 (fTx cs tq TR TO TF TA), fm 8 (fPp cs pq PV)]) hw hip hcu.1 hto1
          have hw : pw D A s.heap _ _ [wd_Ker cs hk kr (fun _ => none) kf ka (gKe pq pz tq rq), fm 13 (fTx cs tq TR TO TF TA), fm 13 (fRw cs rq RR RM RW RF RA RC), fm 8 (fPp cs pq PV)] := hw.sub [0, 1, 3, 2] rfl rfl
          refine px_calli (pr := []) (px_runV (As := [.int p0]) (rest := []) S (c_k_isRunning l D cs hk kr pq pz tq rq kf ka TR TO TF TA RR RM RW RF RA RC PV p0  (show 0 ≤ p0.toInt from by omega) (show p0.toInt ≤ 12 from by omega) hki _) hT (pr := []) (pcs := [wd_Ker cs hk kr (fun _ => none) kf ka (gKe pq pz tq rq), fm 13 (fTx cs tq TR TO TF TA), fm 13 (fRw cs rq RR RM RW RF RA RC), fm 8 (fPp cs pq PV)]) hw px_X.tt (px_recv hT hw 0 0 rfl rfl rfl) m8_154 m8_151 m8_153 ms_6_1 m1_19 q_Ker_isRunning ⟨Nat.le_of_ble_eq_true rfl, Nat.le_of_ble_eq_true rfl⟩ hl.1 rfl (Nat.le_of_ble_eq_true rfl) d_Ker_receive_44 ⟨show 0 + 0 ≤ (5 * ndS 13 tq + 4 * ndS 13 rq + ndS 13 RM) from (by first | exact oz_9c199dfd7f | omega), show 0 + 0 ≤ (9804 * ndS 13 tq + 342 * ndS 13 rq + 36864 * ndS 13 RM) from (by first | exact oz_54615505fb | omega)⟩) hw hA (fun v56 p55 H locs hp55 hw => ?_)
          obtain ⟨rfl, e57, e58⟩ := hp55
          have e57 := z_rng e57
          have e58 : NnP pz p0 v56 := e58
          have hw : pw D A s.heap H locs [wd_Ker cs hk kr (fun _ => none) kf ka (gKe pq pz tq rq), fm 13 (fTx cs tq TR TO TF TA), fm 13 (fRw cs rq RR RM RW RF RA RC), fm 8 (fPp cs pq PV)] := hw
          have lv56 := Int32.le_toInt v56
          have uv56 := Int32.toInt_lt v56
          refine lv_if_ne (tgt := 54) S.x S.b d_Ker_receive_47 (by decide) (fun c59 => ?_) (fun c59 => ?_)
          · have nc59 : ¬ v56.toInt = (0 : Int) := mt (i_eq (x := v56) (y := 0)).mpr c59
            refine lv_iconst (v := 0) S.x S.b d_Ker_receive_54 (by decide) ?_
            refine lv_istore (lv' := [(5, .int 0), (4, .int 1), (0, .ref hk), (1, .ref hx), (2, .int p0), (3, .int p1)]) S.x S.b d_Ker_receive_55 hl (by decide) rfl (fun ls hl => ?_)
            refine lv_iload S.x S.b d_Ker_receive_57 (lv_at hl 0 rfl) ?_
            refine lv_if_eq (tgt := 67) S.x S.b d_Ker_receive_59 (by decide) (fun c61 => ?_) (fun c61 => ?_)
            ·
              refine lv_iload S.x S.b d_Ker_receive_67 (lv_at hl 0 rfl) ?_
              exact pg_iret (v := 0) S hr rfl hlk hAe hw (show 0 ≤ (5 * ndS 13 tq + 4 * ndS 13 rq + ndS 13 RM) from by first | exact oz_86e49526c7 | omega) (show 0 ≤ (9804 * ndS 13 tq + 342 * ndS 13 rq + 36864 * ndS 13 RM) from by first | exact oz_fc3b58e969 | omega) (⟨pz, tq, rq, ka, TR, TO, TF, TA, RR, RM, RW, RF, RA, RC, rfl, (show (0 : Int32) = 0 ∨ (0 : Int32) = 1 from by first | exact Or.inl rfl | exact Or.inr rfl | exact z_or (by omega)), (show CuR pq PV rq RW ip hx from hcu), (show KnI pq PV pz tq rq TO TF TA RW RF from hki), (show RoI ka from hro), (show RmI rq RM from hrm), (show 0 + (5 * ndS 13 tq + 4 * ndS 13 rq + ndS 13 RM) ≤ 5 * ndS 13 tq + 4 * ndS 13 rq + ndS 13 RM from by first | exact oz_9d19b050ad | omega), (show 0 + (9804 * ndS 13 tq + 342 * ndS 13 rq + 36864 * ndS 13 RM) ≤ 9804 * ndS 13 tq + 342 * ndS 13 rq + 36864 * ndS 13 RM from by first | exact oz_b5592d0ae7 | omega)⟩) d_Ker_receive_69
            · exact absurd c61 (by decide)
          · have nc59 : v56.toInt = (0 : Int) := (i_eq (x := v56) (y := 0)).mp c59
            refine lv_iconst (v := 1) S.x S.b d_Ker_receive_50 (by decide) ?_
            refine lv_goto (tgt := 55) S.x S.b d_Ker_receive_51 (by decide) ?_
            refine lv_istore (lv' := [(5, .int 1), (4, .int 1), (0, .ref hk), (1, .ref hx), (2, .int p0), (3, .int p1)]) S.x S.b d_Ker_receive_55 hl (by decide) rfl (fun ls hl => ?_)
            refine lv_iload S.x S.b d_Ker_receive_57 (lv_at hl 0 rfl) ?_
            refine lv_if_eq (tgt := 67) S.x S.b d_Ker_receive_59 (by decide) (fun c62 => ?_) (fun c62 => ?_)
            · exact absurd c62 (by decide)
            ·
              refine lv_aload_n S.x S.b d_Ker_receive_62 rfl (lv_at hl 3 rfl) ?_
              refine lv_iconst (v := 0) S.x S.b d_Ker_receive_63 (by decide) ?_
              have hw : pw D A s.heap _ _ [wd_Ker cs hk kr (fun _ => none) kf ka (gKe pq pz tq rq), fm 13 (fTx cs tq TR TO TF TA), fm 8 (fPp cs pq PV), fm 13 (fRw cs rq RR RM RW RF RA RC)] := hw.sub [0, 1, 3, 2] rfl rfl
              have hw : pw D A s.heap _ _ [wd_Ker cs hk kr (fun _ => none) kf ka (gKe pq pz tq rq), fm 13 (fTx cs tq TR TO TF TA), fm 8 (fPp cs pq PV), fo 13 (fRw cs rq RR RM RW RF RA RC) ip, wd_Raw cs hx (RR ip) (fun k => if k = 2 then (RM ip) else if k = 4 then (some ((PV j1).r 1)) else none) (RF ip) (RA ip) (fun _ _ => none), nA cs (RM ip) 36864 (RC ip)] := frw_out (pr := [wd_Ker cs hk kr (fun _ => none) kf ka (gKe pq pz tq rq), fm 13 (fTx cs tq TR TO TF TA), fm 8 (fPp cs pq PV)]) hw hip hcu.1 hto1
              have hng63 := ndS_ge 13 RM ip hip
              have hrn63 : RwN ip (RF ip) := hki.2.2.1 ip hip _ hcu.1
              have hro63 := hrn63.1
              unfold RwO at hro63
              have hid63 := hrn63.2.1
              have hch63 := hrn63.2.2
              unfold KcI at hch63
              have hw : pw D A s.heap _ _ [wd_Ker cs hk kr (fun _ => none) kf ka (gKe pq pz tq rq), fm 13 (fTx cs tq TR TO TF TA), fm 8 (fPp cs pq PV), fo 13 (fRw cs rq RR RM RW RF RA RC) ip, nA cs (RM ip) 36864 (RC ip), wd_Raw cs hx (RR ip) (fun k => if k = 2 then (RM ip) else if k = 4 then (some ((PV j1).r 1)) else none) (RF ip) (RA ip) (fun _ _ => none)] := hw.sub [0, 1, 2, 3, 5, 4] rfl rfl
              refine px_callv (pr := [wd_Ker cs hk kr (fun _ => none) kf ka (gKe pq pz tq rq), fm 13 (fTx cs tq TR TO TF TA), fm 8 (fPp cs pq PV), fo 13 (fRw cs rq RR RM RW RF RA RC) ip, nA cs (RM ip) 36864 (RC ip)]) (px_runA (As := [.int 0]) (rest := []) S (c_Raw_answer l D cs hx (RR ip) (fun _ _ => none) (RM ip) (some ((PV j1).r 1)) (RF ip) (RA ip) 0  (show 1 ≤ ((RF ip) 7).toInt from by omega) _) hT (pr := [wd_Ker cs hk kr (fun _ => none) kf ka (gKe pq pz tq rq), fm 13 (fTx cs tq TR TO TF TA), fm 8 (fPp cs pq PV), fo 13 (fRw cs rq RR RM RW RF RA RC) ip, nA cs (RM ip) 36864 (RC ip)]) (pcs := [wd_Raw cs hx (RR ip) (fun k => if k = 2 then (RM ip) else if k = 4 then (some ((PV j1).r 1)) else none) (RF ip) (RA ip) (fun _ _ => none)]) hw px_X.tt (C := "HomeSystem$RawProcess") (owner := "HomeSystem$AnyProcess") (x := ⟨"HomeSystem$AnyProcess", "answer", "(I)V"⟩) (px_recv hT hw 5 0 rfl rfl rfl) m8_72 m8_67 m8_69 m8_71 m8_70 m1_34 m8_68n ⟨by decide, by decide⟩ rfl q_Raw_answer ⟨Nat.le_of_ble_eq_true rfl, Nat.le_of_ble_eq_true rfl⟩ hl.1 rfl (Nat.le_of_ble_eq_true rfl) d_Ker_receive_64 ⟨show 0 + 0 ≤ (5 * ndS 13 tq + 4 * ndS 13 rq + ndS 13 RM) from (by first | exact oz_9c199dfd7f | omega), show 0 + 0 ≤ (9804 * ndS 13 tq + 342 * ndS 13 rq + 36864 * ndS 13 RM) from (by first | exact oz_54615505fb | omega)⟩) hw hA (fun p66 H locs hp66 hw => ?_)
              obtain ⟨f64, a65, rfl, e68, e69, e70, e71, e72, e73⟩ := hp66
              have e68 : (f64 7).toInt = ((RF ip) 7).toInt - 1 := e68
              have e69 : (f64 8).toInt = ((RF ip) 8).toInt := e69
              have e70 : (f64 10).toInt = ((RF ip) 10).toInt := e70
              have e71 : (f64 13).toInt = ((RF ip) 13).toInt := e71
              have e72 : (f64 14).toInt = 0 := e72
              have e73 : (f64 11).toInt = ((RF ip) 11).toInt := e73
              have hw : pw D A s.heap H locs [wd_Ker cs hk kr (fun _ => none) kf ka (gKe pq pz tq rq), fm 13 (fTx cs tq TR TO TF TA), fm 8 (fPp cs pq PV), fo 13 (fRw cs rq RR RM RW RF RA RC) ip, nA cs (RM ip) 36864 (RC ip), wd_Raw cs hx (RR ip) (fun k => if k = 2 then (RM ip) else if k = 4 then (some ((PV j1).r 1)) else none) f64 a65 (fun _ _ => none)] := hw
              refine lv_iload S.x S.b d_Ker_receive_67 (lv_at hl 0 rfl) ?_
              have hw : pw D A s.heap _ _ [wd_Ker cs hk kr (fun _ => none) kf ka (gKe pq pz tq rq), fm 13 (fTx cs tq TR TO TF TA), fm 8 (fPp cs pq PV), fo 13 (fRw cs rq RR RM RW RF RA RC) ip, wd_Raw cs hx (RR ip) (fun k => if k = 2 then (RM ip) else if k = 4 then (some ((PV j1).r 1)) else none) f64 a65 (fun _ _ => none), nA cs (RM ip) 36864 (RC ip)] := hw.sub [0, 1, 2, 3, 5, 4] rfl rfl
              have hw := frw_in0 (pr := [wd_Ker cs hk kr (fun _ => none) kf ka (gKe pq pz tq rq), fm 13 (fTx cs tq TR TO TF TA), fm 8 (fPp cs pq PV)]) hw hip hcu.1 hto1
              obtain ⟨RM74, hu_RM74⟩ : ∃ y : Nat → Option Nat, y = va_up RM ip (RM ip) := ⟨_, rfl⟩
              obtain ⟨RF75, hu_RF75⟩ : ∃ y : Nat → Nat → Int32, y = va_up RF ip f64 := ⟨_, rfl⟩
              obtain ⟨RA76, hu_RA76⟩ : ∃ y : Nat → Nat → Nat → Int32, y = va_up RA ip a65 := ⟨_, rfl⟩
              obtain ⟨RC77, hu_RC77⟩ : ∃ y : Nat → Nat → Int32, y = va_up RC ip (RC ip) := ⟨_, rfl⟩
              have hw : pw D A s.heap _ _ [wd_Ker cs hk kr (fun _ => none) kf ka (gKe pq pz tq rq), fm 13 (fTx cs tq TR TO TF TA), fm 8 (fPp cs pq PV), fm 13 (fRw cs rq RR RM74 RW RF75 RA76 RC77)] := (by rw [hu_RM74, hu_RF75, hu_RA76, hu_RC77]; exact hw)
              have hki : KnI pq PV pz tq rq TO TF TA RW RF75 := (by rw [hu_RF75]; exact hki.upR (show RwN ip f64 from ⟨(show (0 ≤ (f64 7).toInt ∧ (f64 7).toInt ≤ 1600) ∧ (0 ≤ (f64 10).toInt ∧ (f64 10).toInt + (f64 7).toInt ≤ 1600) ∧ ((f64 14).toInt = 0 ∨ (f64 14).toInt = 1) ∧ ((f64 14).toInt = 1 → 1 ≤ (f64 7).toInt) from by omega), (show ((f64 8).toInt) = ((ip : Nat) : Int) from by omega), (show 0 ≤ (f64 13).toInt ∧ (f64 13).toInt ≤ 3 ∧ ((f64 13).toInt = 0 ∨ 3 * ((ip : Nat) : Int) + (f64 13).toInt ≤ 12) from by omega)⟩))
              have hrm : RmI rq RM74 := (by rw [hu_RM74]; exact hrm.up hcu.1)
              have hnd_RM74 := ndS_up 13 RM ip (RM ip) hip; rw [← hu_RM74] at hnd_RM74
              have hz14_RF75 : (RF75 ip 14).toInt = (f64 14).toInt := (by rw [hu_RF75, va_up_s]; try rfl)
              have hw : pw D A s.heap _ _ [wd_Ker cs hk kr (fun _ => none) kf ka (gKe pq pz tq rq), fm 13 (fTx cs tq TR TO TF TA), fm 13 (fRw cs rq RR RM74 RW RF75 RA76 RC77), fm 8 (fPp cs pq PV)] := hw.sub [0, 1, 3, 2] rfl rfl
              exact pg_iret (v := 1) S hr rfl hlk hAe hw (show 0 ≤ (5 * ndS 13 tq + 4 * ndS 13 rq + ndS 13 RM) from by first | exact oz_86e49526c7 | omega) (show 0 ≤ (9804 * ndS 13 tq + 342 * ndS 13 rq + 36864 * ndS 13 RM) from by first | exact oz_fc3b58e969 | omega) (⟨pz, tq, rq, ka, TR, TO, TF, TA, RR, RM74, RW, RF75, RA76, RC77, rfl, (show (1 : Int32) = 0 ∨ (1 : Int32) = 1 from by first | exact Or.inl rfl | exact Or.inr rfl | exact z_or (by omega)), (show CuR pq PV rq RW ip hx from hcu), (show KnI pq PV pz tq rq TO TF TA RW RF75 from hki), (show RoI ka from hro), (show RmI rq RM74 from hrm), (show 0 + (5 * ndS 13 tq + 4 * ndS 13 rq + ndS 13 RM74) ≤ 5 * ndS 13 tq + 4 * ndS 13 rq + ndS 13 RM from by omega), (show 0 + (9804 * ndS 13 tq + 342 * ndS 13 rq + 36864 * ndS 13 RM74) ≤ 9804 * ndS 13 tq + 342 * ndS 13 rq + 36864 * ndS 13 RM from by omega)⟩) d_Ker_receive_69
  · have nc2 : p0.toInt = (-1 : Int) := (i_eq (x := p0) (y := (-1))).mp c2
    refine lv_aload_n S.x S.b d_Ker_receive_5 rfl (lv_at hl 1 rfl) ?_
    refine lv_iconst (v := 2) S.x S.b d_Ker_receive_6 (by decide) ?_
    refine lv_iconst (v := 0) S.x S.b d_Ker_receive_7 (by decide) ?_
    have hw : pw D A s.heap _ _ [wd_Ker cs hk kr (fun _ => none) kf ka (gKe pq pz tq rq), fm 13 (fTx cs tq TR TO TF TA), fm 8 (fPp cs pq PV), fm 13 (fRw cs rq RR RM RW RF RA RC)] := hw.sub [0, 1, 3, 2] rfl rfl
    have hw : pw D A s.heap _ _ [wd_Ker cs hk kr (fun _ => none) kf ka (gKe pq pz tq rq), fm 13 (fTx cs tq TR TO TF TA), fm 8 (fPp cs pq PV), fo 13 (fRw cs rq RR RM RW RF RA RC) ip, wd_Raw cs hx (RR ip) (fun k => if k = 2 then (RM ip) else if k = 4 then (some ((PV j1).r 1)) else none) (RF ip) (RA ip) (fun _ _ => none), nA cs (RM ip) 36864 (RC ip)] := frw_out (pr := [wd_Ker cs hk kr (fun _ => none) kf ka (gKe pq pz tq rq), fm 13 (fTx cs tq TR TO TF TA), fm 8 (fPp cs pq PV)]) hw hip hcu.1 hto1
    have hng78 := ndS_ge 13 RM ip hip
    have hrn78 : RwN ip (RF ip) := hki.2.2.1 ip hip _ hcu.1
    have hro78 := hrn78.1
    unfold RwO at hro78
    have hid78 := hrn78.2.1
    have hch78 := hrn78.2.2
    unfold KcI at hch78
    have hw : pw D A s.heap _ _ [wd_Ker cs hk kr (fun _ => none) kf ka (gKe pq pz tq rq), fm 13 (fTx cs tq TR TO TF TA), fm 8 (fPp cs pq PV), fo 13 (fRw cs rq RR RM RW RF RA RC) ip, nA cs (RM ip) 36864 (RC ip), wd_Raw cs hx (RR ip) (fun k => if k = 2 then (RM ip) else if k = 4 then (some ((PV j1).r 1)) else none) (RF ip) (RA ip) (fun _ _ => none)] := hw.sub [0, 1, 2, 3, 5, 4] rfl rfl
    refine px_callv (pr := [wd_Ker cs hk kr (fun _ => none) kf ka (gKe pq pz tq rq), fm 13 (fTx cs tq TR TO TF TA), fm 8 (fPp cs pq PV), fo 13 (fRw cs rq RR RM RW RF RA RC) ip, nA cs (RM ip) 36864 (RC ip)]) (px_runU (As := [.int 2, .int 0]) (rest := []) S (c_finish_Raw l D cs hx (RR ip) (fun _ _ => none) (RM ip) (some ((PV j1).r 1)) (RF ip) (RA ip) 2 0   _) hT (pr := [wd_Ker cs hk kr (fun _ => none) kf ka (gKe pq pz tq rq), fm 13 (fTx cs tq TR TO TF TA), fm 8 (fPp cs pq PV), fo 13 (fRw cs rq RR RM RW RF RA RC) ip, nA cs (RM ip) 36864 (RC ip)]) (pcs := [wd_Raw cs hx (RR ip) (fun k => if k = 2 then (RM ip) else if k = 4 then (some ((PV j1).r 1)) else none) (RF ip) (RA ip) (fun _ _ => none)]) hw px_X.tt (C := "HomeSystem$RawProcess") (x := ⟨"HomeSystem$AnyProcess", "finish", "(II)V"⟩) (px_recv hT hw 5 0 rfl rfl rfl) m8_89 m8_84 m8_86 m8_85 m8_87 m1_33 rfl q_HomeSystem_AnyProcess_finish ⟨Nat.le_of_ble_eq_true rfl, Nat.le_of_ble_eq_true rfl⟩ hl.1 rfl (Nat.le_of_ble_eq_true rfl) d_Ker_receive_8 ⟨show 0 + 0 ≤ (5 * ndS 13 tq + 4 * ndS 13 rq + ndS 13 RM) from (by first | exact oz_9c199dfd7f | omega), show 0 + 0 ≤ (9804 * ndS 13 tq + 342 * ndS 13 rq + 36864 * ndS 13 RM) from (by first | exact oz_54615505fb | omega)⟩) hw hA (fun p81 H locs hp81 hw => ?_)
    obtain ⟨f79, a80, rfl, e83, e84, e85, e86, e87, e88, e89⟩ := hp81
    have e83 : (f79 3).toInt = ((RF ip) 3).toInt := e83
    have e84 : (f79 7).toInt = ((RF ip) 7).toInt := e84
    have e85 : (f79 8).toInt = ((RF ip) 8).toInt := e85
    have e86 : (f79 10).toInt = ((RF ip) 10).toInt := e86
    have e87 : (f79 13).toInt = ((RF ip) 13).toInt := e87
    have e88 : (f79 14).toInt = 0 := e88
    have e89 : (f79 11).toInt = (2 : Int) := e89
    have hw : pw D A s.heap H locs [wd_Ker cs hk kr (fun _ => none) kf ka (gKe pq pz tq rq), fm 13 (fTx cs tq TR TO TF TA), fm 8 (fPp cs pq PV), fo 13 (fRw cs rq RR RM RW RF RA RC) ip, nA cs (RM ip) 36864 (RC ip), wd_Raw cs hx (RR ip) (fun k => if k = 2 then (RM ip) else if k = 4 then (some ((PV j1).r 1)) else none) f79 a80 (fun _ _ => none)] := hw
    refine lv_iconst (v := 1) S.x S.b d_Ker_receive_11 (by decide) ?_
    have hw : pw D A s.heap _ _ [wd_Ker cs hk kr (fun _ => none) kf ka (gKe pq pz tq rq), fm 13 (fTx cs tq TR TO TF TA), fm 8 (fPp cs pq PV), fo 13 (fRw cs rq RR RM RW RF RA RC) ip, wd_Raw cs hx (RR ip) (fun k => if k = 2 then (RM ip) else if k = 4 then (some ((PV j1).r 1)) else none) f79 a80 (fun _ _ => none), nA cs (RM ip) 36864 (RC ip)] := hw.sub [0, 1, 2, 3, 5, 4] rfl rfl
    have hw := frw_in0 (pr := [wd_Ker cs hk kr (fun _ => none) kf ka (gKe pq pz tq rq), fm 13 (fTx cs tq TR TO TF TA), fm 8 (fPp cs pq PV)]) hw hip hcu.1 hto1
    obtain ⟨RM90, hu_RM90⟩ : ∃ y : Nat → Option Nat, y = va_up RM ip (RM ip) := ⟨_, rfl⟩
    obtain ⟨RF91, hu_RF91⟩ : ∃ y : Nat → Nat → Int32, y = va_up RF ip f79 := ⟨_, rfl⟩
    obtain ⟨RA92, hu_RA92⟩ : ∃ y : Nat → Nat → Nat → Int32, y = va_up RA ip a80 := ⟨_, rfl⟩
    obtain ⟨RC93, hu_RC93⟩ : ∃ y : Nat → Nat → Int32, y = va_up RC ip (RC ip) := ⟨_, rfl⟩
    have hw : pw D A s.heap _ _ [wd_Ker cs hk kr (fun _ => none) kf ka (gKe pq pz tq rq), fm 13 (fTx cs tq TR TO TF TA), fm 8 (fPp cs pq PV), fm 13 (fRw cs rq RR RM90 RW RF91 RA92 RC93)] := (by rw [hu_RM90, hu_RF91, hu_RA92, hu_RC93]; exact hw)
    have hki : KnI pq PV pz tq rq TO TF TA RW RF91 := (by rw [hu_RF91]; exact hki.upR (show RwN ip f79 from ⟨(show (0 ≤ (f79 7).toInt ∧ (f79 7).toInt ≤ 1600) ∧ (0 ≤ (f79 10).toInt ∧ (f79 10).toInt + (f79 7).toInt ≤ 1600) ∧ ((f79 14).toInt = 0 ∨ (f79 14).toInt = 1) ∧ ((f79 14).toInt = 1 → 1 ≤ (f79 7).toInt) from by omega), (show ((f79 8).toInt) = ((ip : Nat) : Int) from by omega), (show 0 ≤ (f79 13).toInt ∧ (f79 13).toInt ≤ 3 ∧ ((f79 13).toInt = 0 ∨ 3 * ((ip : Nat) : Int) + (f79 13).toInt ≤ 12) from by omega)⟩))
    have hrm : RmI rq RM90 := (by rw [hu_RM90]; exact hrm.up hcu.1)
    have hnd_RM90 := ndS_up 13 RM ip (RM ip) hip; rw [← hu_RM90] at hnd_RM90
    have hz14_RF91 : (RF91 ip 14).toInt = (f79 14).toInt := (by rw [hu_RF91, va_up_s]; try rfl)
    have hw : pw D A s.heap _ _ [wd_Ker cs hk kr (fun _ => none) kf ka (gKe pq pz tq rq), fm 13 (fTx cs tq TR TO TF TA), fm 13 (fRw cs rq RR RM90 RW RF91 RA92 RC93), fm 8 (fPp cs pq PV)] := hw.sub [0, 1, 3, 2] rfl rfl
    exact pg_iret (v := 1) S hr rfl hlk hAe hw (show 0 ≤ (5 * ndS 13 tq + 4 * ndS 13 rq + ndS 13 RM) from by first | exact oz_86e49526c7 | omega) (show 0 ≤ (9804 * ndS 13 tq + 342 * ndS 13 rq + 36864 * ndS 13 RM) from by first | exact oz_fc3b58e969 | omega) (⟨pz, tq, rq, ka, TR, TO, TF, TA, RR, RM90, RW, RF91, RA92, RC93, rfl, (show (1 : Int32) = 0 ∨ (1 : Int32) = 1 from by first | exact Or.inl rfl | exact Or.inr rfl | exact z_or (by omega)), (show CuR pq PV rq RW ip hx from hcu), (show KnI pq PV pz tq rq TO TF TA RW RF91 from hki), (show RoI ka from hro), (show RmI rq RM90 from hrm), (show 0 + (5 * ndS 13 tq + 4 * ndS 13 rq + ndS 13 RM90) ≤ 5 * ndS 13 tq + 4 * ndS 13 rq + ndS 13 RM from by omega), (show 0 + (9804 * ndS 13 tq + 342 * ndS 13 rq + 36864 * ndS 13 RM90) ≤ 9804 * ndS 13 tq + 342 * ndS 13 rq + 36864 * ndS 13 RM from by omega)⟩) d_Ker_receive_12
abbrev b_Ker_await : ByteArray := prog_4_method_10_code
def y_Ker_await : MethodName := ⟨"HomeSystem$Kernel", "await", "(LHomeSystem$AnyProcess;I)Z"⟩
theorem d_Ker_await_0 : decode b_Ker_await 0 = .ok (.iload_n 2, 1) := by decide +kernel
theorem d_Ker_await_1 : decode b_Ker_await 1 = .ok (.iconst (-1), 1) := by decide +kernel
theorem d_Ker_await_2 : decode b_Ker_await 2 = .ok (.if_icmp .ne 11, 3) := by decide +kernel
theorem d_Ker_await_5 : decode b_Ker_await 5 = .ok (.aload_n 1, 1) := by decide +kernel
theorem d_Ker_await_6 : decode b_Ker_await 6 = .ok (.iconst 2, 1) := by decide +kernel
theorem d_Ker_await_7 : decode b_Ker_await 7 = .ok (.iconst 0, 1) := by decide +kernel
theorem d_Ker_await_8 : decode b_Ker_await 8 = .ok (.invokevirtual 74, 3) := by decide +kernel
theorem d_Ker_await_11 : decode b_Ker_await 11 = .ok (.iconst 1, 1) := by decide +kernel
theorem d_Ker_await_12 : decode b_Ker_await 12 = .ok (.ireturn, 1) := by decide +kernel
theorem d_Ker_await_13 : decode b_Ker_await 13 = .ok (.aload_n 0, 1) := by decide +kernel
theorem d_Ker_await_14 : decode b_Ker_await 14 = .ok (.iload_n 2, 1) := by decide +kernel
theorem d_Ker_await_15 : decode b_Ker_await 15 = .ok (.invokevirtual 70, 3) := by decide +kernel
theorem d_Ker_await_18 : decode b_Ker_await 18 = .ok (.ifCond .ne 12, 3) := by decide +kernel
theorem d_Ker_await_21 : decode b_Ker_await 21 = .ok (.aload_n 0, 1) := by decide +kernel
theorem d_Ker_await_22 : decode b_Ker_await 22 = .ok (.getfield 23, 3) := by decide +kernel
theorem d_Ker_await_25 : decode b_Ker_await 25 = .ok (.iload_n 2, 1) := by decide +kernel
theorem d_Ker_await_26 : decode b_Ker_await 26 = .ok (.aaload, 1) := by decide +kernel
theorem d_Ker_await_27 : decode b_Ker_await 27 = .ok (.ifnonnull 5, 3) := by decide +kernel
theorem d_Ker_await_30 : decode b_Ker_await 30 = .ok (.iconst 0, 1) := by decide +kernel
theorem d_Ker_await_31 : decode b_Ker_await 31 = .ok (.ireturn, 1) := by decide +kernel
theorem d_Ker_await_32 : decode b_Ker_await 32 = .ok (.aload_n 0, 1) := by decide +kernel
theorem d_Ker_await_33 : decode b_Ker_await 33 = .ok (.getfield 23, 3) := by decide +kernel
theorem d_Ker_await_36 : decode b_Ker_await 36 = .ok (.iload_n 2, 1) := by decide +kernel
theorem d_Ker_await_37 : decode b_Ker_await 37 = .ok (.aaload, 1) := by decide +kernel
theorem d_Ker_await_38 : decode b_Ker_await 38 = .ok (.getfield 78, 3) := by decide +kernel
theorem d_Ker_await_41 : decode b_Ker_await 41 = .ok (.istore_n 3, 1) := by decide +kernel
theorem d_Ker_await_42 : decode b_Ker_await 42 = .ok (.aload_n 1, 1) := by decide +kernel
theorem d_Ker_await_43 : decode b_Ker_await 43 = .ok (.iload_n 3, 1) := by decide +kernel
theorem d_Ker_await_44 : decode b_Ker_await 44 = .ok (.ifCond .eq 8, 3) := by decide +kernel
theorem d_Ker_await_47 : decode b_Ker_await 47 = .ok (.iload_n 3, 1) := by decide +kernel
theorem d_Ker_await_48 : decode b_Ker_await 48 = .ok (.iconst 1, 1) := by decide +kernel
theorem d_Ker_await_49 : decode b_Ker_await 49 = .ok (.if_icmp .ne 15, 3) := by decide +kernel
theorem d_Ker_await_52 : decode b_Ker_await 52 = .ok (.aload_n 0, 1) := by decide +kernel
theorem d_Ker_await_53 : decode b_Ker_await 53 = .ok (.getfield 23, 3) := by decide +kernel
theorem d_Ker_await_56 : decode b_Ker_await 56 = .ok (.iload_n 2, 1) := by decide +kernel
theorem d_Ker_await_57 : decode b_Ker_await 57 = .ok (.aaload, 1) := by decide +kernel
theorem d_Ker_await_58 : decode b_Ker_await 58 = .ok (.getfield 145, 3) := by decide +kernel
theorem d_Ker_await_61 : decode b_Ker_await 61 = .ok (.goto 5, 3) := by decide +kernel
theorem d_Ker_await_64 : decode b_Ker_await 64 = .ok (.iload_n 3, 1) := by decide +kernel
theorem d_Ker_await_65 : decode b_Ker_await 65 = .ok (.ineg, 1) := by decide +kernel
theorem d_Ker_await_66 : decode b_Ker_await 66 = .ok (.invokevirtual 117, 3) := by decide +kernel
theorem d_Ker_await_69 : decode b_Ker_await 69 = .ok (.iconst 1, 1) := by decide +kernel
theorem d_Ker_await_70 : decode b_Ker_await 70 = .ok (.ireturn, 1) := by decide +kernel
theorem q_Ker_await : px_y y_Ker_await 2 := by unfold px_y; decide +kernel
set_option maxHeartbeats 4000000 in
set_option maxRecDepth 100000 in
theorem c_k_await_T (l : Launch) (D : va_G) (cs : Nat → ClassId) (hk : Nat) (kr : Nat → Nat) (pq : Nat → Option Nat) (kf : Nat → Int32) (PV : Nat → Pvs) (pz : Nat → Option Nat) (tq : Nat → Option Nat) (rq : Nat → Option Nat) (ka : Nat → Nat → Int32) (TR : Nat → Nat → Nat) (TO : Nat → Option Nat) (TF : Nat → Nat → Int32) (TA : Nat → Nat → Nat → Int32) (RR : Nat → Nat → Nat) (RM : Nat → Option Nat) (RW : Nat → Option Nat) (RF : Nat → Nat → Int32) (RA : Nat → Nat → Nat → Int32) (RC : Nat → Nat → Int32) (p0 : Int32) (ip hx : Nat) (g0 : p0.toInt = -1 ∨ (0 ≤ p0.toInt ∧ p0.toInt ≤ 12)) (g1 : (TF ip 21).toInt = 1) (hki : KnI pq PV pz tq rq TO TF TA RW RF) (hro : RoI ka) (hrm : RmI rq RM) (hip : ip < 13) (hcu : CuT pq PV tq TO ip hx) : MgI l y_Ker_await b_Ker_await 4 (.boolean) D cs 4 160 ((5 * ndS 13 tq + 4 * ndS 13 rq + ndS 13 RM)) ((9804 * ndS 13 tq + 342 * ndS 13 rq + 36864 * ndS 13 RM)) [.ref hk, .ref hx, .int p0] [wd_Ker cs hk kr (fun _ => none) kf ka (gKe pq pz tq rq), fm 13 (fTx cs tq TR TO TF TA), fm 13 (fRw cs rq RR RM RW RF RA RC), fm 8 (fPp cs pq PV)] (fun _ => True) (fun v ps => ∃ (pz' : Nat → Option Nat) (tq' : Nat → Option Nat) (rq' : Nat → Option Nat) (ka' : Nat → Nat → Int32) (TR' : Nat → Nat → Nat) (TO' : Nat → Option Nat) (TF' : Nat → Nat → Int32) (TA' : Nat → Nat → Nat → Int32) (RR' : Nat → Nat → Nat) (RM' : Nat → Option Nat) (RW' : Nat → Option Nat) (RF' : Nat → Nat → Int32) (RA' : Nat → Nat → Nat → Int32) (RC' : Nat → Nat → Int32), (ps.1 = [wd_Ker cs hk kr (fun _ => none) kf ka' (gKe pq pz' tq' rq'), fm 13 (fTx cs tq' TR' TO' TF' TA'), fm 13 (fRw cs rq' RR' RM' RW' RF' RA' RC'), fm 8 (fPp cs pq PV)]) ∧ (v = 0 ∨ v = 1) ∧ (CuT pq PV tq' TO' ip hx) ∧ (KnI pq PV pz' tq' rq' TO' TF' TA' RW' RF') ∧ (RoI ka') ∧ (RmI rq' RM') ∧ (ps.2.1 + (5 * ndS 13 tq' + 4 * ndS 13 rq' + ndS 13 RM') ≤ 5 * ndS 13 tq + 4 * ndS 13 rq + ndS 13 RM) ∧ (ps.2.2 + (9804 * ndS 13 tq' + 342 * ndS 13 rq' + 36864 * ndS 13 RM') ≤ 9804 * ndS 13 tq + 342 * ndS 13 rq + 36864 * ndS 13 RM)) := by
  refine pg_enter (by decide) (Nat.le_of_ble_eq_true rfl) ?_
  intro p e s m below meth c A ls hAe S hr hlk hnm hA hT hX hw hl
  have hl : lv_has ls 4 [(0, .ref hk), (1, .ref hx), (2, .int p0)] := hl
  have lp0 := Int32.le_toInt p0
  have up0 := Int32.toInt_lt p0
  have cstm1 : ((-1) : Int32).toInt = (-1) := rfl
  have cst0 : (0 : Int32).toInt = 0 := rfl
  have cst1 : (1 : Int32).toInt = 1 := rfl
  have cst2 : (2 : Int32).toInt = 2 := rfl
  refine lv_iload_n S.x S.b d_Ker_await_0 rfl (lv_at hl 2 rfl) ?_
  obtain ⟨j1, hp1, hj1, hjq1, hto1, hf01⟩ := hcu.2
  refine lv_iconst (v := (-1)) S.x S.b d_Ker_await_1 (by decide) ?_
  refine lv_icmp_ne (tgt := 13) S.x S.b d_Ker_await_2 (by decide) (fun c2 => ?_) (fun c2 => ?_)
  · have nc2 : ¬ p0.toInt = (-1 : Int) := mt (i_eq (x := p0) (y := (-1))).mpr c2
    refine lv_aload_n S.x S.b d_Ker_await_13 rfl (lv_at hl 0 rfl) ?_
    refine lv_iload_n S.x S.b d_Ker_await_14 rfl (lv_at hl 2 rfl) ?_
    refine px_calli (pr := []) (px_runV (As := [.int p0]) (rest := []) S (c_k_isRunning l D cs hk kr pq pz tq rq kf ka TR TO TF TA RR RM RW RF RA RC PV p0  (show 0 ≤ p0.toInt from by omega) (show p0.toInt ≤ 12 from by omega) hki _) hT (pr := []) (pcs := [wd_Ker cs hk kr (fun _ => none) kf ka (gKe pq pz tq rq), fm 13 (fTx cs tq TR TO TF TA), fm 13 (fRw cs rq RR RM RW RF RA RC), fm 8 (fPp cs pq PV)]) hw px_X.tt (px_recv hT hw 0 0 rfl rfl rfl) m8_154 m8_151 m8_153 ms_6_1 m1_19 q_Ker_isRunning ⟨Nat.le_of_ble_eq_true rfl, Nat.le_of_ble_eq_true rfl⟩ hl.1 rfl (Nat.le_of_ble_eq_true rfl) d_Ker_await_15 ⟨show 0 + 0 ≤ (5 * ndS 13 tq + 4 * ndS 13 rq + ndS 13 RM) from (by first | exact oz_9c199dfd7f | omega), show 0 + 0 ≤ (9804 * ndS 13 tq + 342 * ndS 13 rq + 36864 * ndS 13 RM) from (by first | exact oz_54615505fb | omega)⟩) hw hA (fun v5 p4 H locs hp4 hw => ?_)
    obtain ⟨rfl, e6, e7⟩ := hp4
    have e6 := z_rng e6
    have e7 : NnP pz p0 v5 := e7
    have hw : pw D A s.heap H locs [wd_Ker cs hk kr (fun _ => none) kf ka (gKe pq pz tq rq), fm 13 (fTx cs tq TR TO TF TA), fm 13 (fRw cs rq RR RM RW RF RA RC), fm 8 (fPp cs pq PV)] := hw
    have lv5 := Int32.le_toInt v5
    have uv5 := Int32.toInt_lt v5
    refine lv_if_ne (tgt := 30) S.x S.b d_Ker_await_18 (by decide) (fun c8 => ?_) (fun c8 => ?_)
    · have nc8 : ¬ v5.toInt = (0 : Int) := mt (i_eq (x := v5) (y := 0)).mpr c8
      refine lv_iconst (v := 0) S.x S.b d_Ker_await_30 (by decide) ?_
      exact pg_iret (v := 0) S hr rfl hlk hAe hw (show 0 ≤ (5 * ndS 13 tq + 4 * ndS 13 rq + ndS 13 RM) from by first | exact oz_86e49526c7 | omega) (show 0 ≤ (9804 * ndS 13 tq + 342 * ndS 13 rq + 36864 * ndS 13 RM) from by first | exact oz_fc3b58e969 | omega) (⟨pz, tq, rq, ka, TR, TO, TF, TA, RR, RM, RW, RF, RA, RC, rfl, (show (0 : Int32) = 0 ∨ (0 : Int32) = 1 from by first | exact Or.inl rfl | exact Or.inr rfl | exact z_or (by omega)), (show CuT pq PV tq TO ip hx from hcu), (show KnI pq PV pz tq rq TO TF TA RW RF from hki), (show RoI ka from hro), (show RmI rq RM from hrm), (show 0 + (5 * ndS 13 tq + 4 * ndS 13 rq + ndS 13 RM) ≤ 5 * ndS 13 tq + 4 * ndS 13 rq + ndS 13 RM from by first | exact oz_9d19b050ad | omega), (show 0 + (9804 * ndS 13 tq + 342 * ndS 13 rq + 36864 * ndS 13 RM) ≤ 9804 * ndS 13 tq + 342 * ndS 13 rq + 36864 * ndS 13 RM from by first | exact oz_b5592d0ae7 | omega)⟩) d_Ker_await_31
    · have nc8 : v5.toInt = (0 : Int) := (i_eq (x := v5) (y := 0)).mp c8
      refine lv_aload_n S.x S.b d_Ker_await_21 rfl (lv_at hl 0 rfl) ?_
      refine px_get S k_Ker hT hw 0 0 2 (v := .ref (kr 2)) rfl rfl rfl (by decide) m2_222 d_Ker_await_22 ?_
      refine lv_iload_n S.x S.b d_Ker_await_25 rfl (lv_at hl 2 rfl) ?_
      refine px_aald S hT hw 0 3 6 (n := 13) (f := pz) rfl rfl rfl (x := p0) (vp_in_iff.mpr (by constructor <;> omega)) d_Ker_await_26 ?_
      refine lq_top (fun y10 hy10 => ?_)
      refine lq_ifnonnull (x := y10) (tgt := 32) S.x S.b d_Ker_await_27 (by decide) (fun q12 c11 => ?_) (fun c11 => ?_)
      ·
        subst c11
        have nd0_c11 := nd_1 q12
        have hc14 := cl_nat (x := p0) (by first | exact oz_016f458179 hc14 | omega)
        have hi14 : p0.toNatClampNeg < 13 := by first | exact oz_50e7088b63 hc14 g0 | omega
        have hr14 := hy10.symm
        refine lv_aload_n S.x S.b d_Ker_await_32 rfl (lv_at hl 0 rfl) ?_
        refine px_get S k_Ker hT hw 0 0 2 (v := .ref (kr 2)) rfl rfl rfl (by decide) m2_222 d_Ker_await_33 ?_
        refine lv_iload_n S.x S.b d_Ker_await_36 rfl (lv_at hl 2 rfl) ?_
        refine px_aaldS S hT hw 0 3 6 (n := 13) (f := pz) rfl rfl rfl (x := p0) (vp_in_iff.mpr (by first | exact oz_3859d57d28 hc14 hi14 | (constructor <;> omega))) (sk := q12) hr14 d_Ker_await_37 ?_
        rcases hki.2.2.2 p0.toNatClampNeg hi14 with hno | ⟨h9, e9, hcu15⟩ | ⟨h9, e9, hcu15⟩
        · rw [hno] at hr14; cases hr14
        ·
          cases (hr14.symm.trans e9)
          obtain ⟨j16, hp16, hj16, hjq16, hto16, hf016⟩ := hcu15.2
          have hw : pw D A s.heap _ _ [wd_Ker cs hk kr (fun _ => none) kf ka (gKe pq pz tq rq), fm 13 (fRw cs rq RR RM RW RF RA RC), fm 8 (fPp cs pq PV), fm 13 (fTx cs tq TR TO TF TA)] := hw.sub [0, 2, 3, 1] rfl rfl
          have hw : pw D A s.heap _ _ [wd_Ker cs hk kr (fun _ => none) kf ka (gKe pq pz tq rq), fm 13 (fRw cs rq RR RM RW RF RA RC), fm 8 (fPp cs pq PV), fo 13 (fTx cs tq TR TO TF TA) p0.toNatClampNeg, wd_Txp cs q12 (TR p0.toNatClampNeg) (fun k => if k = 3 then (some hp16) else none) (TF p0.toNatClampNeg) (TA p0.toNatClampNeg) (fun _ _ => none)] := ftx_out (pr := [wd_Ker cs hk kr (fun _ => none) kf ka (gKe pq pz tq rq), fm 13 (fRw cs rq RR RM RW RF RA RC), fm 8 (fPp cs pq PV)]) hw hi14 hcu15.1 hto16
          have htn17 : TxN p0.toNatClampNeg (TF p0.toNatClampNeg) (TA p0.toNatClampNeg) := hki.2.1 p0.toNatClampNeg hi14 _ hcu15.1
          obtain ⟨lk, ⟨i2, i3⟩, ⟨i4, i5⟩, ⟨i6, i7⟩, i8, ⟨i9, i11⟩, i10, hrt⟩ := htn17.1
          have hid17 := htn17.2.1
          have hch17 := htn17.2.2
          unfold KcI at hch17
          refine px_get S k_Txp hT hw 4 0 18 (v := .int ((TF p0.toNatClampNeg) 18)) rfl rfl rfl (by decide) m6_139 d_Ker_await_38 ?_
          refine lv_istore_n (lv' := [(3, .int ((TF p0.toNatClampNeg) 18)), (0, .ref hk), (1, .ref hx), (2, .int p0)]) S.x S.b d_Ker_await_41 rfl hl (by decide) rfl (fun ls hl => ?_)
          refine lv_aload_n S.x S.b d_Ker_await_42 rfl (lv_at hl 2 rfl) ?_
          refine lv_iload_n S.x S.b d_Ker_await_43 rfl (lv_at hl 0 rfl) ?_
          refine lv_if_eq (tgt := 52) S.x S.b d_Ker_await_44 (by decide) (fun c18 => ?_) (fun c18 => ?_)
          · have nc18 : ((TF p0.toNatClampNeg) 18).toInt = (0 : Int) := (i_eq (x := ((TF p0.toNatClampNeg) 18)) (y := 0)).mp c18
            refine lv_aload_n S.x S.b d_Ker_await_52 rfl (lv_at hl 1 rfl) ?_
            refine px_get S k_Ker hT hw 0 0 2 (v := .ref (kr 2)) rfl rfl rfl (by decide) m2_222 d_Ker_await_53 ?_
            refine lv_iload_n S.x S.b d_Ker_await_56 rfl (lv_at hl 3 rfl) ?_
            refine px_aaldS S hT hw 0 3 6 (n := 13) (f := pz) rfl rfl rfl (x := p0) (vp_in_iff.mpr (by first | exact oz_3859d57d28 hc14 hi14 | (constructor <;> omega))) (sk := q12) hr14 d_Ker_await_57 ?_
            refine px_get S k_Txp hT hw 4 0 19 (v := .int ((TF p0.toNatClampNeg) 19)) rfl rfl rfl (by decide) m6_146 d_Ker_await_58 ?_
            refine lv_goto (tgt := 66) S.x S.b d_Ker_await_61 (by decide) ?_
            have hw : pw D A s.heap _ _ [wd_Ker cs hk kr (fun _ => none) kf ka (gKe pq pz tq rq), fm 13 (fRw cs rq RR RM RW RF RA RC), fm 8 (fPp cs pq PV), fm 13 (fTx cs tq TR TO TF TA)] := ftx_back (pr := [wd_Ker cs hk kr (fun _ => none) kf ka (gKe pq pz tq rq), fm 13 (fRw cs rq RR RM RW RF RA RC), fm 8 (fPp cs pq PV)]) hw hi14 hcu15.1 hto16
            have hw : pw D A s.heap _ _ [wd_Ker cs hk kr (fun _ => none) kf ka (gKe pq pz tq rq), fm 13 (fRw cs rq RR RM RW RF RA RC), fm 8 (fPp cs pq PV), fo 13 (fTx cs tq TR TO TF TA) ip, wd_Txp cs hx (TR ip) (fun k => if k = 3 then (some hp1) else none) (TF ip) (TA ip) (fun _ _ => none)] := ftx_out (pr := [wd_Ker cs hk kr (fun _ => none) kf ka (gKe pq pz tq rq), fm 13 (fRw cs rq RR RM RW RF RA RC), fm 8 (fPp cs pq PV)]) hw hip hcu.1 hto1
            have htn20 : TxN ip (TF ip) (TA ip) := hki.2.1 ip hip _ hcu.1
            obtain ⟨lk, ⟨i2, i3⟩, ⟨i4, i5⟩, ⟨i6, i7⟩, i8, ⟨i9, i11⟩, i10, hrt⟩ := htn20.1
            have hid20 := htn20.2.1
            have hch20 := htn20.2.2
            unfold KcI at hch20
            refine px_callv (pr := [wd_Ker cs hk kr (fun _ => none) kf ka (gKe pq pz tq rq), fm 13 (fRw cs rq RR RM RW RF RA RC), fm 8 (fPp cs pq PV), fo 13 (fTx cs tq TR TO TF TA) ip]) (px_runA (As := [.int ((TF p0.toNatClampNeg) 19)]) (rest := []) S (c_Txp_answer l D cs hx (TR ip) (fun _ _ => none) hp1 (TF ip) (TA ip) ((TF p0.toNatClampNeg) 19)  (show TxOk ((TF ip) 4) ((TF ip) 5) ((TF ip) 8) ((TF ip) 9) ((TF ip) 17) 0 ((TA ip) 2) from ⟨(by first | exact lk | exact lk_eq lk (by omega) | exact lk_mk (by omega)), ⟨by omega, by omega⟩, ⟨by omega, by omega⟩, ⟨by omega, by omega⟩, by omega, ⟨by decide, by decide⟩, (by show _ + _ + (0 : Int) ≤ 100; omega), hrt⟩) _) hT (pr := [wd_Ker cs hk kr (fun _ => none) kf ka (gKe pq pz tq rq), fm 13 (fRw cs rq RR RM RW RF RA RC), fm 8 (fPp cs pq PV), fo 13 (fTx cs tq TR TO TF TA) ip]) (pcs := [wd_Txp cs hx (TR ip) (fun k => if k = 3 then (some hp1) else none) (TF ip) (TA ip) (fun _ _ => none)]) hw px_X.tt (C := "HomeSystem$TextProcess") (owner := "HomeSystem$AnyProcess") (x := ⟨"HomeSystem$AnyProcess", "answer", "(I)V"⟩) (px_recv hT hw 4 0 rfl rfl rfl) m8_75 m8_67 m8_69 m8_74 m8_73 m1_35 m8_68n ⟨by decide, by decide⟩ rfl q_Txp_answer ⟨Nat.le_of_ble_eq_true rfl, Nat.le_of_ble_eq_true rfl⟩ hl.1 rfl (Nat.le_of_ble_eq_true rfl) d_Ker_await_66 ⟨show 0 + 0 ≤ (5 * ndS 13 tq + 4 * ndS 13 rq + ndS 13 RM) from (by first | exact oz_9c199dfd7f | omega), show 0 + 0 ≤ (9804 * ndS 13 tq + 342 * ndS 13 rq + 36864 * ndS 13 RM) from (by first | exact oz_54615505fb | omega)⟩) hw hA (fun p25 H locs hp25 hw => ?_)
            obtain ⟨f23, a24, rfl, e27, e28, e29, e30, e31, e32⟩ := hp25
            have e27 : TxOk (f23 4) (f23 5) (f23 8) (f23 9) (f23 17) (f23 21) (a24 2) := e27
            obtain ⟨lk, ⟨i2, i3⟩, ⟨i4, i5⟩, ⟨i6, i7⟩, i8, ⟨i9, i11⟩, i10, hrt⟩ := e27
            have e28 : (f23 9).toInt = ((TF ip) 9).toInt := e28
            have e29 : (f23 17).toInt = ((TF ip) 17).toInt := e29
            have e30 : (f23 21).toInt = 0 := e30
            have e31 : (f23 15).toInt = ((TF ip) 15).toInt := e31
            have e32 : (f23 20).toInt = ((TF ip) 20).toInt := e32
            have hw : pw D A s.heap H locs [wd_Ker cs hk kr (fun _ => none) kf ka (gKe pq pz tq rq), fm 13 (fRw cs rq RR RM RW RF RA RC), fm 8 (fPp cs pq PV), fo 13 (fTx cs tq TR TO TF TA) ip, wd_Txp cs hx (TR ip) (fun k => if k = 3 then (some hp1) else none) f23 a24 (fun _ _ => none)] := hw
            refine lv_iconst (v := 1) S.x S.b d_Ker_await_69 (by decide) ?_
            have hw := ftx_in0 (pr := [wd_Ker cs hk kr (fun _ => none) kf ka (gKe pq pz tq rq), fm 13 (fRw cs rq RR RM RW RF RA RC), fm 8 (fPp cs pq PV)]) hw hip hcu.1 hto1
            obtain ⟨TF33, hu_TF33⟩ : ∃ y : Nat → Nat → Int32, y = va_up TF ip f23 := ⟨_, rfl⟩
            obtain ⟨TA34, hu_TA34⟩ : ∃ y : Nat → Nat → Nat → Int32, y = va_up TA ip a24 := ⟨_, rfl⟩
            have hw : pw D A s.heap _ _ [wd_Ker cs hk kr (fun _ => none) kf ka (gKe pq pz tq rq), fm 13 (fRw cs rq RR RM RW RF RA RC), fm 8 (fPp cs pq PV), fm 13 (fTx cs tq TR TO TF33 TA34)] := (by rw [hu_TF33, hu_TA34]; exact hw)
            have hki : KnI pq PV pz tq rq TO TF33 TA34 RW RF := (by rw [hu_TF33, hu_TA34]; exact hki.upT (show TxN ip f23 a24 from ⟨(show TxOk (f23 4) (f23 5) (f23 8) (f23 9) (f23 17) (f23 21) (a24 2) from ⟨(by first | exact lk | exact lk_eq lk (by omega) | exact lk_mk (by omega)), ⟨by omega, by omega⟩, ⟨by omega, by omega⟩, ⟨by omega, by omega⟩, by omega, ⟨by omega, by omega⟩, by omega, hrt⟩), (show ((f23 15).toInt) = ((ip : Nat) : Int) from by omega), (show 0 ≤ (f23 20).toInt ∧ (f23 20).toInt ≤ 3 ∧ ((f23 20).toInt = 0 ∨ 3 * ((ip : Nat) : Int) + (f23 20).toInt ≤ 12) from by omega)⟩))
            have hz21_TF33 : (TF33 ip 21).toInt = (f23 21).toInt := (by rw [hu_TF33, va_up_s]; try rfl)
            have hw : pw D A s.heap _ _ [wd_Ker cs hk kr (fun _ => none) kf ka (gKe pq pz tq rq), fm 13 (fTx cs tq TR TO TF33 TA34), fm 13 (fRw cs rq RR RM RW RF RA RC), fm 8 (fPp cs pq PV)] := hw.sub [0, 3, 1, 2] rfl rfl
            exact pg_iret (v := 1) S hr rfl hlk hAe hw (show 0 ≤ (5 * ndS 13 tq + 4 * ndS 13 rq + ndS 13 RM) from by first | exact oz_86e49526c7 | omega) (show 0 ≤ (9804 * ndS 13 tq + 342 * ndS 13 rq + 36864 * ndS 13 RM) from by first | exact oz_fc3b58e969 | omega) (⟨pz, tq, rq, ka, TR, TO, TF33, TA34, RR, RM, RW, RF, RA, RC, rfl, (show (1 : Int32) = 0 ∨ (1 : Int32) = 1 from by first | exact Or.inl rfl | exact Or.inr rfl | exact z_or (by omega)), (show CuT pq PV tq TO ip hx from hcu), (show KnI pq PV pz tq rq TO TF33 TA34 RW RF from hki), (show RoI ka from hro), (show RmI rq RM from hrm), (show 0 + (5 * ndS 13 tq + 4 * ndS 13 rq + ndS 13 RM) ≤ 5 * ndS 13 tq + 4 * ndS 13 rq + ndS 13 RM from by first | exact oz_9d19b050ad | omega), (show 0 + (9804 * ndS 13 tq + 342 * ndS 13 rq + 36864 * ndS 13 RM) ≤ 9804 * ndS 13 tq + 342 * ndS 13 rq + 36864 * ndS 13 RM from by first | exact oz_b5592d0ae7 | omega)⟩) d_Ker_await_70
          · have nc18 : ¬ ((TF p0.toNatClampNeg) 18).toInt = (0 : Int) := mt (i_eq (x := ((TF p0.toNatClampNeg) 18)) (y := 0)).mpr c18
            refine lv_iload_n S.x S.b d_Ker_await_47 rfl (lv_at hl 0 rfl) ?_
            refine lv_iconst (v := 1) S.x S.b d_Ker_await_48 (by decide) ?_
            refine lv_icmp_ne (tgt := 64) S.x S.b d_Ker_await_49 (by decide) (fun c35 => ?_) (fun c35 => ?_)
            · have nc35 : ¬ ((TF p0.toNatClampNeg) 18).toInt = (1 : Int) := mt (i_eq (x := ((TF p0.toNatClampNeg) 18)) (y := 1)).mpr c35
              refine lv_iload_n S.x S.b d_Ker_await_64 rfl (lv_at hl 0 rfl) ?_
              refine lv_ineg S.x S.b d_Ker_await_65 ?_
              have lr37 := Int32.le_toInt ((TF p0.toNatClampNeg) 18)
              have ur37 := Int32.toInt_lt ((TF p0.toNatClampNeg) 18)
              refine lv_topi (fun z38 ez38 => ?_)
              have lz38 := Int32.le_toInt z38
              have uz38 := Int32.toInt_lt z38
              have hw : pw D A s.heap _ _ [wd_Ker cs hk kr (fun _ => none) kf ka (gKe pq pz tq rq), fm 13 (fRw cs rq RR RM RW RF RA RC), fm 8 (fPp cs pq PV), fm 13 (fTx cs tq TR TO TF TA)] := ftx_back (pr := [wd_Ker cs hk kr (fun _ => none) kf ka (gKe pq pz tq rq), fm 13 (fRw cs rq RR RM RW RF RA RC), fm 8 (fPp cs pq PV)]) hw hi14 hcu15.1 hto16
              have hw : pw D A s.heap _ _ [wd_Ker cs hk kr (fun _ => none) kf ka (gKe pq pz tq rq), fm 13 (fRw cs rq RR RM RW RF RA RC), fm 8 (fPp cs pq PV), fo 13 (fTx cs tq TR TO TF TA) ip, wd_Txp cs hx (TR ip) (fun k => if k = 3 then (some hp1) else none) (TF ip) (TA ip) (fun _ _ => none)] := ftx_out (pr := [wd_Ker cs hk kr (fun _ => none) kf ka (gKe pq pz tq rq), fm 13 (fRw cs rq RR RM RW RF RA RC), fm 8 (fPp cs pq PV)]) hw hip hcu.1 hto1
              have htn39 : TxN ip (TF ip) (TA ip) := hki.2.1 ip hip _ hcu.1
              obtain ⟨lk, ⟨i2, i3⟩, ⟨i4, i5⟩, ⟨i6, i7⟩, i8, ⟨i9, i11⟩, i10, hrt⟩ := htn39.1
              have hid39 := htn39.2.1
              have hch39 := htn39.2.2
              unfold KcI at hch39
              refine px_callv (pr := [wd_Ker cs hk kr (fun _ => none) kf ka (gKe pq pz tq rq), fm 13 (fRw cs rq RR RM RW RF RA RC), fm 8 (fPp cs pq PV), fo 13 (fTx cs tq TR TO TF TA) ip]) (px_runA (As := [.int z38]) (rest := []) S (c_Txp_answer l D cs hx (TR ip) (fun _ _ => none) hp1 (TF ip) (TA ip) z38  (show TxOk ((TF ip) 4) ((TF ip) 5) ((TF ip) 8) ((TF ip) 9) ((TF ip) 17) 0 ((TA ip) 2) from ⟨(by first | exact lk | exact lk_eq lk (by omega) | exact lk_mk (by omega)), ⟨by omega, by omega⟩, ⟨by omega, by omega⟩, ⟨by omega, by omega⟩, by omega, ⟨by decide, by decide⟩, (by show _ + _ + (0 : Int) ≤ 100; omega), hrt⟩) _) hT (pr := [wd_Ker cs hk kr (fun _ => none) kf ka (gKe pq pz tq rq), fm 13 (fRw cs rq RR RM RW RF RA RC), fm 8 (fPp cs pq PV), fo 13 (fTx cs tq TR TO TF TA) ip]) (pcs := [wd_Txp cs hx (TR ip) (fun k => if k = 3 then (some hp1) else none) (TF ip) (TA ip) (fun _ _ => none)]) hw px_X.tt (C := "HomeSystem$TextProcess") (owner := "HomeSystem$AnyProcess") (x := ⟨"HomeSystem$AnyProcess", "answer", "(I)V"⟩) (px_recv hT hw 4 0 rfl rfl rfl) m8_75 m8_67 m8_69 m8_74 m8_73 m1_35 m8_68n ⟨by decide, by decide⟩ rfl q_Txp_answer ⟨Nat.le_of_ble_eq_true rfl, Nat.le_of_ble_eq_true rfl⟩ hl.1 rfl (Nat.le_of_ble_eq_true rfl) d_Ker_await_66 ⟨show 0 + 0 ≤ (5 * ndS 13 tq + 4 * ndS 13 rq + ndS 13 RM) from (by first | exact oz_9c199dfd7f | omega), show 0 + 0 ≤ (9804 * ndS 13 tq + 342 * ndS 13 rq + 36864 * ndS 13 RM) from (by first | exact oz_54615505fb | omega)⟩) hw hA (fun p44 H locs hp44 hw => ?_)
              obtain ⟨f42, a43, rfl, e46, e47, e48, e49, e50, e51⟩ := hp44
              have e46 : TxOk (f42 4) (f42 5) (f42 8) (f42 9) (f42 17) (f42 21) (a43 2) := e46
              obtain ⟨lk, ⟨i2, i3⟩, ⟨i4, i5⟩, ⟨i6, i7⟩, i8, ⟨i9, i11⟩, i10, hrt⟩ := e46
              have e47 : (f42 9).toInt = ((TF ip) 9).toInt := e47
              have e48 : (f42 17).toInt = ((TF ip) 17).toInt := e48
              have e49 : (f42 21).toInt = 0 := e49
              have e50 : (f42 15).toInt = ((TF ip) 15).toInt := e50
              have e51 : (f42 20).toInt = ((TF ip) 20).toInt := e51
              have hw : pw D A s.heap H locs [wd_Ker cs hk kr (fun _ => none) kf ka (gKe pq pz tq rq), fm 13 (fRw cs rq RR RM RW RF RA RC), fm 8 (fPp cs pq PV), fo 13 (fTx cs tq TR TO TF TA) ip, wd_Txp cs hx (TR ip) (fun k => if k = 3 then (some hp1) else none) f42 a43 (fun _ _ => none)] := hw
              refine lv_iconst (v := 1) S.x S.b d_Ker_await_69 (by decide) ?_
              have hw := ftx_in0 (pr := [wd_Ker cs hk kr (fun _ => none) kf ka (gKe pq pz tq rq), fm 13 (fRw cs rq RR RM RW RF RA RC), fm 8 (fPp cs pq PV)]) hw hip hcu.1 hto1
              obtain ⟨TF52, hu_TF52⟩ : ∃ y : Nat → Nat → Int32, y = va_up TF ip f42 := ⟨_, rfl⟩
              obtain ⟨TA53, hu_TA53⟩ : ∃ y : Nat → Nat → Nat → Int32, y = va_up TA ip a43 := ⟨_, rfl⟩
              have hw : pw D A s.heap _ _ [wd_Ker cs hk kr (fun _ => none) kf ka (gKe pq pz tq rq), fm 13 (fRw cs rq RR RM RW RF RA RC), fm 8 (fPp cs pq PV), fm 13 (fTx cs tq TR TO TF52 TA53)] := (by rw [hu_TF52, hu_TA53]; exact hw)
              have hki : KnI pq PV pz tq rq TO TF52 TA53 RW RF := (by rw [hu_TF52, hu_TA53]; exact hki.upT (show TxN ip f42 a43 from ⟨(show TxOk (f42 4) (f42 5) (f42 8) (f42 9) (f42 17) (f42 21) (a43 2) from ⟨(by first | exact lk | exact lk_eq lk (by omega) | exact lk_mk (by omega)), ⟨by omega, by omega⟩, ⟨by omega, by omega⟩, ⟨by omega, by omega⟩, by omega, ⟨by omega, by omega⟩, by omega, hrt⟩), (show ((f42 15).toInt) = ((ip : Nat) : Int) from by omega), (show 0 ≤ (f42 20).toInt ∧ (f42 20).toInt ≤ 3 ∧ ((f42 20).toInt = 0 ∨ 3 * ((ip : Nat) : Int) + (f42 20).toInt ≤ 12) from by omega)⟩))
              have hz21_TF52 : (TF52 ip 21).toInt = (f42 21).toInt := (by rw [hu_TF52, va_up_s]; try rfl)
              have hw : pw D A s.heap _ _ [wd_Ker cs hk kr (fun _ => none) kf ka (gKe pq pz tq rq), fm 13 (fTx cs tq TR TO TF52 TA53), fm 13 (fRw cs rq RR RM RW RF RA RC), fm 8 (fPp cs pq PV)] := hw.sub [0, 3, 1, 2] rfl rfl
              exact pg_iret (v := 1) S hr rfl hlk hAe hw (show 0 ≤ (5 * ndS 13 tq + 4 * ndS 13 rq + ndS 13 RM) from by first | exact oz_86e49526c7 | omega) (show 0 ≤ (9804 * ndS 13 tq + 342 * ndS 13 rq + 36864 * ndS 13 RM) from by first | exact oz_fc3b58e969 | omega) (⟨pz, tq, rq, ka, TR, TO, TF52, TA53, RR, RM, RW, RF, RA, RC, rfl, (show (1 : Int32) = 0 ∨ (1 : Int32) = 1 from by first | exact Or.inl rfl | exact Or.inr rfl | exact z_or (by omega)), (show CuT pq PV tq TO ip hx from hcu), (show KnI pq PV pz tq rq TO TF52 TA53 RW RF from hki), (show RoI ka from hro), (show RmI rq RM from hrm), (show 0 + (5 * ndS 13 tq + 4 * ndS 13 rq + ndS 13 RM) ≤ 5 * ndS 13 tq + 4 * ndS 13 rq + ndS 13 RM from by first | exact oz_9d19b050ad | omega), (show 0 + (9804 * ndS 13 tq + 342 * ndS 13 rq + 36864 * ndS 13 RM) ≤ 9804 * ndS 13 tq + 342 * ndS 13 rq + 36864 * ndS 13 RM from by first | exact oz_b5592d0ae7 | omega)⟩) d_Ker_await_70
            · have nc35 : ((TF p0.toNatClampNeg) 18).toInt = (1 : Int) := (i_eq (x := ((TF p0.toNatClampNeg) 18)) (y := 1)).mp c35
              refine lv_aload_n S.x S.b d_Ker_await_52 rfl (lv_at hl 1 rfl) ?_
              refine px_get S k_Ker hT hw 0 0 2 (v := .ref (kr 2)) rfl rfl rfl (by decide) m2_222 d_Ker_await_53 ?_
              refine lv_iload_n S.x S.b d_Ker_await_56 rfl (lv_at hl 3 rfl) ?_
              refine px_aaldS S hT hw 0 3 6 (n := 13) (f := pz) rfl rfl rfl (x := p0) (vp_in_iff.mpr (by first | exact oz_3859d57d28 hc14 hi14 | (constructor <;> omega))) (sk := q12) hr14 d_Ker_await_57 ?_
              refine px_get S k_Txp hT hw 4 0 19 (v := .int ((TF p0.toNatClampNeg) 19)) rfl rfl rfl (by decide) m6_146 d_Ker_await_58 ?_
              refine lv_goto (tgt := 66) S.x S.b d_Ker_await_61 (by decide) ?_
              have hw : pw D A s.heap _ _ [wd_Ker cs hk kr (fun _ => none) kf ka (gKe pq pz tq rq), fm 13 (fRw cs rq RR RM RW RF RA RC), fm 8 (fPp cs pq PV), fm 13 (fTx cs tq TR TO TF TA)] := ftx_back (pr := [wd_Ker cs hk kr (fun _ => none) kf ka (gKe pq pz tq rq), fm 13 (fRw cs rq RR RM RW RF RA RC), fm 8 (fPp cs pq PV)]) hw hi14 hcu15.1 hto16
              have hw : pw D A s.heap _ _ [wd_Ker cs hk kr (fun _ => none) kf ka (gKe pq pz tq rq), fm 13 (fRw cs rq RR RM RW RF RA RC), fm 8 (fPp cs pq PV), fo 13 (fTx cs tq TR TO TF TA) ip, wd_Txp cs hx (TR ip) (fun k => if k = 3 then (some hp1) else none) (TF ip) (TA ip) (fun _ _ => none)] := ftx_out (pr := [wd_Ker cs hk kr (fun _ => none) kf ka (gKe pq pz tq rq), fm 13 (fRw cs rq RR RM RW RF RA RC), fm 8 (fPp cs pq PV)]) hw hip hcu.1 hto1
              have htn54 : TxN ip (TF ip) (TA ip) := hki.2.1 ip hip _ hcu.1
              obtain ⟨lk, ⟨i2, i3⟩, ⟨i4, i5⟩, ⟨i6, i7⟩, i8, ⟨i9, i11⟩, i10, hrt⟩ := htn54.1
              have hid54 := htn54.2.1
              have hch54 := htn54.2.2
              unfold KcI at hch54
              refine px_callv (pr := [wd_Ker cs hk kr (fun _ => none) kf ka (gKe pq pz tq rq), fm 13 (fRw cs rq RR RM RW RF RA RC), fm 8 (fPp cs pq PV), fo 13 (fTx cs tq TR TO TF TA) ip]) (px_runA (As := [.int ((TF p0.toNatClampNeg) 19)]) (rest := []) S (c_Txp_answer l D cs hx (TR ip) (fun _ _ => none) hp1 (TF ip) (TA ip) ((TF p0.toNatClampNeg) 19)  (show TxOk ((TF ip) 4) ((TF ip) 5) ((TF ip) 8) ((TF ip) 9) ((TF ip) 17) 0 ((TA ip) 2) from ⟨(by first | exact lk | exact lk_eq lk (by omega) | exact lk_mk (by omega)), ⟨by omega, by omega⟩, ⟨by omega, by omega⟩, ⟨by omega, by omega⟩, by omega, ⟨by decide, by decide⟩, (by show _ + _ + (0 : Int) ≤ 100; omega), hrt⟩) _) hT (pr := [wd_Ker cs hk kr (fun _ => none) kf ka (gKe pq pz tq rq), fm 13 (fRw cs rq RR RM RW RF RA RC), fm 8 (fPp cs pq PV), fo 13 (fTx cs tq TR TO TF TA) ip]) (pcs := [wd_Txp cs hx (TR ip) (fun k => if k = 3 then (some hp1) else none) (TF ip) (TA ip) (fun _ _ => none)]) hw px_X.tt (C := "HomeSystem$TextProcess") (owner := "HomeSystem$AnyProcess") (x := ⟨"HomeSystem$AnyProcess", "answer", "(I)V"⟩) (px_recv hT hw 4 0 rfl rfl rfl) m8_75 m8_67 m8_69 m8_74 m8_73 m1_35 m8_68n ⟨by decide, by decide⟩ rfl q_Txp_answer ⟨Nat.le_of_ble_eq_true rfl, Nat.le_of_ble_eq_true rfl⟩ hl.1 rfl (Nat.le_of_ble_eq_true rfl) d_Ker_await_66 ⟨show 0 + 0 ≤ (5 * ndS 13 tq + 4 * ndS 13 rq + ndS 13 RM) from (by first | exact oz_9c199dfd7f | omega), show 0 + 0 ≤ (9804 * ndS 13 tq + 342 * ndS 13 rq + 36864 * ndS 13 RM) from (by first | exact oz_54615505fb | omega)⟩) hw hA (fun p59 H locs hp59 hw => ?_)
              obtain ⟨f57, a58, rfl, e61, e62, e63, e64, e65, e66⟩ := hp59
              have e61 : TxOk (f57 4) (f57 5) (f57 8) (f57 9) (f57 17) (f57 21) (a58 2) := e61
              obtain ⟨lk, ⟨i2, i3⟩, ⟨i4, i5⟩, ⟨i6, i7⟩, i8, ⟨i9, i11⟩, i10, hrt⟩ := e61
              have e62 : (f57 9).toInt = ((TF ip) 9).toInt := e62
              have e63 : (f57 17).toInt = ((TF ip) 17).toInt := e63
              have e64 : (f57 21).toInt = 0 := e64
              have e65 : (f57 15).toInt = ((TF ip) 15).toInt := e65
              have e66 : (f57 20).toInt = ((TF ip) 20).toInt := e66
              have hw : pw D A s.heap H locs [wd_Ker cs hk kr (fun _ => none) kf ka (gKe pq pz tq rq), fm 13 (fRw cs rq RR RM RW RF RA RC), fm 8 (fPp cs pq PV), fo 13 (fTx cs tq TR TO TF TA) ip, wd_Txp cs hx (TR ip) (fun k => if k = 3 then (some hp1) else none) f57 a58 (fun _ _ => none)] := hw
              refine lv_iconst (v := 1) S.x S.b d_Ker_await_69 (by decide) ?_
              have hw := ftx_in0 (pr := [wd_Ker cs hk kr (fun _ => none) kf ka (gKe pq pz tq rq), fm 13 (fRw cs rq RR RM RW RF RA RC), fm 8 (fPp cs pq PV)]) hw hip hcu.1 hto1
              obtain ⟨TF67, hu_TF67⟩ : ∃ y : Nat → Nat → Int32, y = va_up TF ip f57 := ⟨_, rfl⟩
              obtain ⟨TA68, hu_TA68⟩ : ∃ y : Nat → Nat → Nat → Int32, y = va_up TA ip a58 := ⟨_, rfl⟩
              have hw : pw D A s.heap _ _ [wd_Ker cs hk kr (fun _ => none) kf ka (gKe pq pz tq rq), fm 13 (fRw cs rq RR RM RW RF RA RC), fm 8 (fPp cs pq PV), fm 13 (fTx cs tq TR TO TF67 TA68)] := (by rw [hu_TF67, hu_TA68]; exact hw)
              have hki : KnI pq PV pz tq rq TO TF67 TA68 RW RF := (by rw [hu_TF67, hu_TA68]; exact hki.upT (show TxN ip f57 a58 from ⟨(show TxOk (f57 4) (f57 5) (f57 8) (f57 9) (f57 17) (f57 21) (a58 2) from ⟨(by first | exact lk | exact lk_eq lk (by omega) | exact lk_mk (by omega)), ⟨by omega, by omega⟩, ⟨by omega, by omega⟩, ⟨by omega, by omega⟩, by omega, ⟨by omega, by omega⟩, by omega, hrt⟩), (show ((f57 15).toInt) = ((ip : Nat) : Int) from by omega), (show 0 ≤ (f57 20).toInt ∧ (f57 20).toInt ≤ 3 ∧ ((f57 20).toInt = 0 ∨ 3 * ((ip : Nat) : Int) + (f57 20).toInt ≤ 12) from by omega)⟩))
              have hz21_TF67 : (TF67 ip 21).toInt = (f57 21).toInt := (by rw [hu_TF67, va_up_s]; try rfl)
              have hw : pw D A s.heap _ _ [wd_Ker cs hk kr (fun _ => none) kf ka (gKe pq pz tq rq), fm 13 (fTx cs tq TR TO TF67 TA68), fm 13 (fRw cs rq RR RM RW RF RA RC), fm 8 (fPp cs pq PV)] := hw.sub [0, 3, 1, 2] rfl rfl
              exact pg_iret (v := 1) S hr rfl hlk hAe hw (show 0 ≤ (5 * ndS 13 tq + 4 * ndS 13 rq + ndS 13 RM) from by first | exact oz_86e49526c7 | omega) (show 0 ≤ (9804 * ndS 13 tq + 342 * ndS 13 rq + 36864 * ndS 13 RM) from by first | exact oz_fc3b58e969 | omega) (⟨pz, tq, rq, ka, TR, TO, TF67, TA68, RR, RM, RW, RF, RA, RC, rfl, (show (1 : Int32) = 0 ∨ (1 : Int32) = 1 from by first | exact Or.inl rfl | exact Or.inr rfl | exact z_or (by omega)), (show CuT pq PV tq TO ip hx from hcu), (show KnI pq PV pz tq rq TO TF67 TA68 RW RF from hki), (show RoI ka from hro), (show RmI rq RM from hrm), (show 0 + (5 * ndS 13 tq + 4 * ndS 13 rq + ndS 13 RM) ≤ 5 * ndS 13 tq + 4 * ndS 13 rq + ndS 13 RM from by first | exact oz_9d19b050ad | omega), (show 0 + (9804 * ndS 13 tq + 342 * ndS 13 rq + 36864 * ndS 13 RM) ≤ 9804 * ndS 13 tq + 342 * ndS 13 rq + 36864 * ndS 13 RM from by first | exact oz_b5592d0ae7 | omega)⟩) d_Ker_await_70
        ·
          cases (hr14.symm.trans e9)
          obtain ⟨j69, hp69, hj69, hjq69, hto69⟩ := hcu15.2
          have hw : pw D A s.heap _ _ [wd_Ker cs hk kr (fun _ => none) kf ka (gKe pq pz tq rq), fm 13 (fTx cs tq TR TO TF TA), fm 8 (fPp cs pq PV), fm 13 (fRw cs rq RR RM RW RF RA RC)] := hw.sub [0, 1, 3, 2] rfl rfl
          have hw : pw D A s.heap _ _ [wd_Ker cs hk kr (fun _ => none) kf ka (gKe pq pz tq rq), fm 13 (fTx cs tq TR TO TF TA), fm 8 (fPp cs pq PV), fo 13 (fRw cs rq RR RM RW RF RA RC) p0.toNatClampNeg, wd_Raw cs q12 (RR p0.toNatClampNeg) (fun k => if k = 2 then (RM p0.toNatClampNeg) else if k = 4 then (some ((PV j69).r 1)) else none) (RF p0.toNatClampNeg) (RA p0.toNatClampNeg) (fun _ _ => none), nA cs (RM p0.toNatClampNeg) 36864 (RC p0.toNatClampNeg)] := frw_out (pr := [wd_Ker cs hk kr (fun _ => none) kf ka (gKe pq pz tq rq), fm 13 (fTx cs tq TR TO TF TA), fm 8 (fPp cs pq PV)]) hw hi14 hcu15.1 hto69
          have hng70 := ndS_ge 13 RM p0.toNatClampNeg hi14
          have hrn70 : RwN p0.toNatClampNeg (RF p0.toNatClampNeg) := hki.2.2.1 p0.toNatClampNeg hi14 _ hcu15.1
          have hro70 := hrn70.1
          unfold RwO at hro70
          have hid70 := hrn70.2.1
          have hch70 := hrn70.2.2
          unfold KcI at hch70
          refine px_get S k_Raw hT hw 4 0 11 (v := .int ((RF p0.toNatClampNeg) 11)) rfl rfl rfl (by decide) m6_139 d_Ker_await_38 ?_
          refine lv_istore_n (lv' := [(3, .int ((RF p0.toNatClampNeg) 11)), (0, .ref hk), (1, .ref hx), (2, .int p0)]) S.x S.b d_Ker_await_41 rfl hl (by decide) rfl (fun ls hl => ?_)
          refine lv_aload_n S.x S.b d_Ker_await_42 rfl (lv_at hl 2 rfl) ?_
          refine lv_iload_n S.x S.b d_Ker_await_43 rfl (lv_at hl 0 rfl) ?_
          refine lv_if_eq (tgt := 52) S.x S.b d_Ker_await_44 (by decide) (fun c71 => ?_) (fun c71 => ?_)
          · have nc71 : ((RF p0.toNatClampNeg) 11).toInt = (0 : Int) := (i_eq (x := ((RF p0.toNatClampNeg) 11)) (y := 0)).mp c71
            refine lv_aload_n S.x S.b d_Ker_await_52 rfl (lv_at hl 1 rfl) ?_
            refine px_get S k_Ker hT hw 0 0 2 (v := .ref (kr 2)) rfl rfl rfl (by decide) m2_222 d_Ker_await_53 ?_
            refine lv_iload_n S.x S.b d_Ker_await_56 rfl (lv_at hl 3 rfl) ?_
            refine px_aaldS S hT hw 0 3 6 (n := 13) (f := pz) rfl rfl rfl (x := p0) (vp_in_iff.mpr (by first | exact oz_3859d57d28 hc14 hi14 | (constructor <;> omega))) (sk := q12) hr14 d_Ker_await_57 ?_
            refine px_get S k_Raw hT hw 4 0 12 (v := .int ((RF p0.toNatClampNeg) 12)) rfl rfl rfl (by decide) m6_146 d_Ker_await_58 ?_
            refine lv_goto (tgt := 66) S.x S.b d_Ker_await_61 (by decide) ?_
            have hw : pw D A s.heap _ _ [wd_Ker cs hk kr (fun _ => none) kf ka (gKe pq pz tq rq), fm 8 (fPp cs pq PV), fo 13 (fRw cs rq RR RM RW RF RA RC) p0.toNatClampNeg, wd_Raw cs q12 (RR p0.toNatClampNeg) (fun k => if k = 2 then (RM p0.toNatClampNeg) else if k = 4 then (some ((PV j69).r 1)) else none) (RF p0.toNatClampNeg) (RA p0.toNatClampNeg) (fun _ _ => none), nA cs (RM p0.toNatClampNeg) 36864 (RC p0.toNatClampNeg), fm 13 (fTx cs tq TR TO TF TA)] := hw.sub [0, 2, 3, 4, 5, 1] rfl rfl
            have hw : pw D A s.heap _ _ [wd_Ker cs hk kr (fun _ => none) kf ka (gKe pq pz tq rq), fm 8 (fPp cs pq PV), fo 13 (fRw cs rq RR RM RW RF RA RC) p0.toNatClampNeg, wd_Raw cs q12 (RR p0.toNatClampNeg) (fun k => if k = 2 then (RM p0.toNatClampNeg) else if k = 4 then (some ((PV j69).r 1)) else none) (RF p0.toNatClampNeg) (RA p0.toNatClampNeg) (fun _ _ => none), nA cs (RM p0.toNatClampNeg) 36864 (RC p0.toNatClampNeg), fo 13 (fTx cs tq TR TO TF TA) ip, wd_Txp cs hx (TR ip) (fun k => if k = 3 then (some hp1) else none) (TF ip) (TA ip) (fun _ _ => none)] := ftx_out (pr := [wd_Ker cs hk kr (fun _ => none) kf ka (gKe pq pz tq rq), fm 8 (fPp cs pq PV), fo 13 (fRw cs rq RR RM RW RF RA RC) p0.toNatClampNeg, wd_Raw cs q12 (RR p0.toNatClampNeg) (fun k => if k = 2 then (RM p0.toNatClampNeg) else if k = 4 then (some ((PV j69).r 1)) else none) (RF p0.toNatClampNeg) (RA p0.toNatClampNeg) (fun _ _ => none), nA cs (RM p0.toNatClampNeg) 36864 (RC p0.toNatClampNeg)]) hw hip hcu.1 hto1
            have htn73 : TxN ip (TF ip) (TA ip) := hki.2.1 ip hip _ hcu.1
            obtain ⟨lk, ⟨i2, i3⟩, ⟨i4, i5⟩, ⟨i6, i7⟩, i8, ⟨i9, i11⟩, i10, hrt⟩ := htn73.1
            have hid73 := htn73.2.1
            have hch73 := htn73.2.2
            unfold KcI at hch73
            refine px_callv (pr := [wd_Ker cs hk kr (fun _ => none) kf ka (gKe pq pz tq rq), fm 8 (fPp cs pq PV), fo 13 (fRw cs rq RR RM RW RF RA RC) p0.toNatClampNeg, wd_Raw cs q12 (RR p0.toNatClampNeg) (fun k => if k = 2 then (RM p0.toNatClampNeg) else if k = 4 then (some ((PV j69).r 1)) else none) (RF p0.toNatClampNeg) (RA p0.toNatClampNeg) (fun _ _ => none), nA cs (RM p0.toNatClampNeg) 36864 (RC p0.toNatClampNeg), fo 13 (fTx cs tq TR TO TF TA) ip]) (px_runA (As := [.int ((RF p0.toNatClampNeg) 12)]) (rest := []) S (c_Txp_answer l D cs hx (TR ip) (fun _ _ => none) hp1 (TF ip) (TA ip) ((RF p0.toNatClampNeg) 12)  (show TxOk ((TF ip) 4) ((TF ip) 5) ((TF ip) 8) ((TF ip) 9) ((TF ip) 17) 0 ((TA ip) 2) from ⟨(by first | exact lk | exact lk_eq lk (by omega) | exact lk_mk (by omega)), ⟨by omega, by omega⟩, ⟨by omega, by omega⟩, ⟨by omega, by omega⟩, by omega, ⟨by decide, by decide⟩, (by show _ + _ + (0 : Int) ≤ 100; omega), hrt⟩) _) hT (pr := [wd_Ker cs hk kr (fun _ => none) kf ka (gKe pq pz tq rq), fm 8 (fPp cs pq PV), fo 13 (fRw cs rq RR RM RW RF RA RC) p0.toNatClampNeg, wd_Raw cs q12 (RR p0.toNatClampNeg) (fun k => if k = 2 then (RM p0.toNatClampNeg) else if k = 4 then (some ((PV j69).r 1)) else none) (RF p0.toNatClampNeg) (RA p0.toNatClampNeg) (fun _ _ => none), nA cs (RM p0.toNatClampNeg) 36864 (RC p0.toNatClampNeg), fo 13 (fTx cs tq TR TO TF TA) ip]) (pcs := [wd_Txp cs hx (TR ip) (fun k => if k = 3 then (some hp1) else none) (TF ip) (TA ip) (fun _ _ => none)]) hw px_X.tt (C := "HomeSystem$TextProcess") (owner := "HomeSystem$AnyProcess") (x := ⟨"HomeSystem$AnyProcess", "answer", "(I)V"⟩) (px_recv hT hw 6 0 rfl rfl rfl) m8_75 m8_67 m8_69 m8_74 m8_73 m1_35 m8_68n ⟨by decide, by decide⟩ rfl q_Txp_answer ⟨Nat.le_of_ble_eq_true rfl, Nat.le_of_ble_eq_true rfl⟩ hl.1 rfl (Nat.le_of_ble_eq_true rfl) d_Ker_await_66 ⟨show 0 + 0 ≤ (5 * ndS 13 tq + 4 * ndS 13 rq + ndS 13 RM) from (by first | exact oz_9c199dfd7f | omega), show 0 + 0 ≤ (9804 * ndS 13 tq + 342 * ndS 13 rq + 36864 * ndS 13 RM) from (by first | exact oz_54615505fb | omega)⟩) hw hA (fun p78 H locs hp78 hw => ?_)
            obtain ⟨f76, a77, rfl, e80, e81, e82, e83, e84, e85⟩ := hp78
            have e80 : TxOk (f76 4) (f76 5) (f76 8) (f76 9) (f76 17) (f76 21) (a77 2) := e80
            obtain ⟨lk, ⟨i2, i3⟩, ⟨i4, i5⟩, ⟨i6, i7⟩, i8, ⟨i9, i11⟩, i10, hrt⟩ := e80
            have e81 : (f76 9).toInt = ((TF ip) 9).toInt := e81
            have e82 : (f76 17).toInt = ((TF ip) 17).toInt := e82
            have e83 : (f76 21).toInt = 0 := e83
            have e84 : (f76 15).toInt = ((TF ip) 15).toInt := e84
            have e85 : (f76 20).toInt = ((TF ip) 20).toInt := e85
            have hw : pw D A s.heap H locs [wd_Ker cs hk kr (fun _ => none) kf ka (gKe pq pz tq rq), fm 8 (fPp cs pq PV), fo 13 (fRw cs rq RR RM RW RF RA RC) p0.toNatClampNeg, wd_Raw cs q12 (RR p0.toNatClampNeg) (fun k => if k = 2 then (RM p0.toNatClampNeg) else if k = 4 then (some ((PV j69).r 1)) else none) (RF p0.toNatClampNeg) (RA p0.toNatClampNeg) (fun _ _ => none), nA cs (RM p0.toNatClampNeg) 36864 (RC p0.toNatClampNeg), fo 13 (fTx cs tq TR TO TF TA) ip, wd_Txp cs hx (TR ip) (fun k => if k = 3 then (some hp1) else none) f76 a77 (fun _ _ => none)] := hw
            refine lv_iconst (v := 1) S.x S.b d_Ker_await_69 (by decide) ?_
            have hw := ftx_in0 (pr := [wd_Ker cs hk kr (fun _ => none) kf ka (gKe pq pz tq rq), fm 8 (fPp cs pq PV), fo 13 (fRw cs rq RR RM RW RF RA RC) p0.toNatClampNeg, wd_Raw cs q12 (RR p0.toNatClampNeg) (fun k => if k = 2 then (RM p0.toNatClampNeg) else if k = 4 then (some ((PV j69).r 1)) else none) (RF p0.toNatClampNeg) (RA p0.toNatClampNeg) (fun _ _ => none), nA cs (RM p0.toNatClampNeg) 36864 (RC p0.toNatClampNeg)]) hw hip hcu.1 hto1
            obtain ⟨TF86, hu_TF86⟩ : ∃ y : Nat → Nat → Int32, y = va_up TF ip f76 := ⟨_, rfl⟩
            obtain ⟨TA87, hu_TA87⟩ : ∃ y : Nat → Nat → Nat → Int32, y = va_up TA ip a77 := ⟨_, rfl⟩
            have hw : pw D A s.heap _ _ [wd_Ker cs hk kr (fun _ => none) kf ka (gKe pq pz tq rq), fm 8 (fPp cs pq PV), fo 13 (fRw cs rq RR RM RW RF RA RC) p0.toNatClampNeg, wd_Raw cs q12 (RR p0.toNatClampNeg) (fun k => if k = 2 then (RM p0.toNatClampNeg) else if k = 4 then (some ((PV j69).r 1)) else none) (RF p0.toNatClampNeg) (RA p0.toNatClampNeg) (fun _ _ => none), nA cs (RM p0.toNatClampNeg) 36864 (RC p0.toNatClampNeg), fm 13 (fTx cs tq TR TO TF86 TA87)] := (by rw [hu_TF86, hu_TA87]; exact hw)
            have hki : KnI pq PV pz tq rq TO TF86 TA87 RW RF := (by rw [hu_TF86, hu_TA87]; exact hki.upT (show TxN ip f76 a77 from ⟨(show TxOk (f76 4) (f76 5) (f76 8) (f76 9) (f76 17) (f76 21) (a77 2) from ⟨(by first | exact lk | exact lk_eq lk (by omega) | exact lk_mk (by omega)), ⟨by omega, by omega⟩, ⟨by omega, by omega⟩, ⟨by omega, by omega⟩, by omega, ⟨by omega, by omega⟩, by omega, hrt⟩), (show ((f76 15).toInt) = ((ip : Nat) : Int) from by omega), (show 0 ≤ (f76 20).toInt ∧ (f76 20).toInt ≤ 3 ∧ ((f76 20).toInt = 0 ∨ 3 * ((ip : Nat) : Int) + (f76 20).toInt ≤ 12) from by omega)⟩))
            have hz21_TF86 : (TF86 ip 21).toInt = (f76 21).toInt := (by rw [hu_TF86, va_up_s]; try rfl)
            have hw : pw D A s.heap _ _ [wd_Ker cs hk kr (fun _ => none) kf ka (gKe pq pz tq rq), fm 8 (fPp cs pq PV), fm 13 (fTx cs tq TR TO TF86 TA87), fo 13 (fRw cs rq RR RM RW RF RA RC) p0.toNatClampNeg, wd_Raw cs q12 (RR p0.toNatClampNeg) (fun k => if k = 2 then (RM p0.toNatClampNeg) else if k = 4 then (some ((PV j69).r 1)) else none) (RF p0.toNatClampNeg) (RA p0.toNatClampNeg) (fun _ _ => none), nA cs (RM p0.toNatClampNeg) 36864 (RC p0.toNatClampNeg)] := hw.sub [0, 1, 5, 2, 3, 4] rfl rfl
            have hw : pw D A s.heap _ _ [wd_Ker cs hk kr (fun _ => none) kf ka (gKe pq pz tq rq), fm 8 (fPp cs pq PV), fm 13 (fTx cs tq TR TO TF86 TA87), fm 13 (fRw cs rq RR RM RW RF RA RC)] := frw_back (pr := [wd_Ker cs hk kr (fun _ => none) kf ka (gKe pq pz tq rq), fm 8 (fPp cs pq PV), fm 13 (fTx cs tq TR TO TF86 TA87)]) hw hi14 hcu15.1 hto69
            have hw : pw D A s.heap _ _ [wd_Ker cs hk kr (fun _ => none) kf ka (gKe pq pz tq rq), fm 13 (fTx cs tq TR TO TF86 TA87), fm 13 (fRw cs rq RR RM RW RF RA RC), fm 8 (fPp cs pq PV)] := hw.sub [0, 2, 3, 1] rfl rfl
            exact pg_iret (v := 1) S hr rfl hlk hAe hw (show 0 ≤ (5 * ndS 13 tq + 4 * ndS 13 rq + ndS 13 RM) from by first | exact oz_86e49526c7 | omega) (show 0 ≤ (9804 * ndS 13 tq + 342 * ndS 13 rq + 36864 * ndS 13 RM) from by first | exact oz_fc3b58e969 | omega) (⟨pz, tq, rq, ka, TR, TO, TF86, TA87, RR, RM, RW, RF, RA, RC, rfl, (show (1 : Int32) = 0 ∨ (1 : Int32) = 1 from by first | exact Or.inl rfl | exact Or.inr rfl | exact z_or (by omega)), (show CuT pq PV tq TO ip hx from hcu), (show KnI pq PV pz tq rq TO TF86 TA87 RW RF from hki), (show RoI ka from hro), (show RmI rq RM from hrm), (show 0 + (5 * ndS 13 tq + 4 * ndS 13 rq + ndS 13 RM) ≤ 5 * ndS 13 tq + 4 * ndS 13 rq + ndS 13 RM from by first | exact oz_9d19b050ad | omega), (show 0 + (9804 * ndS 13 tq + 342 * ndS 13 rq + 36864 * ndS 13 RM) ≤ 9804 * ndS 13 tq + 342 * ndS 13 rq + 36864 * ndS 13 RM from by first | exact oz_b5592d0ae7 | omega)⟩) d_Ker_await_70
          · have nc71 : ¬ ((RF p0.toNatClampNeg) 11).toInt = (0 : Int) := mt (i_eq (x := ((RF p0.toNatClampNeg) 11)) (y := 0)).mpr c71
            refine lv_iload_n S.x S.b d_Ker_await_47 rfl (lv_at hl 0 rfl) ?_
            refine lv_iconst (v := 1) S.x S.b d_Ker_await_48 (by decide) ?_
            refine lv_icmp_ne (tgt := 64) S.x S.b d_Ker_await_49 (by decide) (fun c88 => ?_) (fun c88 => ?_)
            · have nc88 : ¬ ((RF p0.toNatClampNeg) 11).toInt = (1 : Int) := mt (i_eq (x := ((RF p0.toNatClampNeg) 11)) (y := 1)).mpr c88
              refine lv_iload_n S.x S.b d_Ker_await_64 rfl (lv_at hl 0 rfl) ?_
              refine lv_ineg S.x S.b d_Ker_await_65 ?_
              have lr90 := Int32.le_toInt ((RF p0.toNatClampNeg) 11)
              have ur90 := Int32.toInt_lt ((RF p0.toNatClampNeg) 11)
              refine lv_topi (fun z91 ez91 => ?_)
              have lz91 := Int32.le_toInt z91
              have uz91 := Int32.toInt_lt z91
              have hw : pw D A s.heap _ _ [wd_Ker cs hk kr (fun _ => none) kf ka (gKe pq pz tq rq), fm 8 (fPp cs pq PV), fo 13 (fRw cs rq RR RM RW RF RA RC) p0.toNatClampNeg, wd_Raw cs q12 (RR p0.toNatClampNeg) (fun k => if k = 2 then (RM p0.toNatClampNeg) else if k = 4 then (some ((PV j69).r 1)) else none) (RF p0.toNatClampNeg) (RA p0.toNatClampNeg) (fun _ _ => none), nA cs (RM p0.toNatClampNeg) 36864 (RC p0.toNatClampNeg), fm 13 (fTx cs tq TR TO TF TA)] := hw.sub [0, 2, 3, 4, 5, 1] rfl rfl
              have hw : pw D A s.heap _ _ [wd_Ker cs hk kr (fun _ => none) kf ka (gKe pq pz tq rq), fm 8 (fPp cs pq PV), fo 13 (fRw cs rq RR RM RW RF RA RC) p0.toNatClampNeg, wd_Raw cs q12 (RR p0.toNatClampNeg) (fun k => if k = 2 then (RM p0.toNatClampNeg) else if k = 4 then (some ((PV j69).r 1)) else none) (RF p0.toNatClampNeg) (RA p0.toNatClampNeg) (fun _ _ => none), nA cs (RM p0.toNatClampNeg) 36864 (RC p0.toNatClampNeg), fo 13 (fTx cs tq TR TO TF TA) ip, wd_Txp cs hx (TR ip) (fun k => if k = 3 then (some hp1) else none) (TF ip) (TA ip) (fun _ _ => none)] := ftx_out (pr := [wd_Ker cs hk kr (fun _ => none) kf ka (gKe pq pz tq rq), fm 8 (fPp cs pq PV), fo 13 (fRw cs rq RR RM RW RF RA RC) p0.toNatClampNeg, wd_Raw cs q12 (RR p0.toNatClampNeg) (fun k => if k = 2 then (RM p0.toNatClampNeg) else if k = 4 then (some ((PV j69).r 1)) else none) (RF p0.toNatClampNeg) (RA p0.toNatClampNeg) (fun _ _ => none), nA cs (RM p0.toNatClampNeg) 36864 (RC p0.toNatClampNeg)]) hw hip hcu.1 hto1
              have htn92 : TxN ip (TF ip) (TA ip) := hki.2.1 ip hip _ hcu.1
              obtain ⟨lk, ⟨i2, i3⟩, ⟨i4, i5⟩, ⟨i6, i7⟩, i8, ⟨i9, i11⟩, i10, hrt⟩ := htn92.1
              have hid92 := htn92.2.1
              have hch92 := htn92.2.2
              unfold KcI at hch92
              refine px_callv (pr := [wd_Ker cs hk kr (fun _ => none) kf ka (gKe pq pz tq rq), fm 8 (fPp cs pq PV), fo 13 (fRw cs rq RR RM RW RF RA RC) p0.toNatClampNeg, wd_Raw cs q12 (RR p0.toNatClampNeg) (fun k => if k = 2 then (RM p0.toNatClampNeg) else if k = 4 then (some ((PV j69).r 1)) else none) (RF p0.toNatClampNeg) (RA p0.toNatClampNeg) (fun _ _ => none), nA cs (RM p0.toNatClampNeg) 36864 (RC p0.toNatClampNeg), fo 13 (fTx cs tq TR TO TF TA) ip]) (px_runA (As := [.int z91]) (rest := []) S (c_Txp_answer l D cs hx (TR ip) (fun _ _ => none) hp1 (TF ip) (TA ip) z91  (show TxOk ((TF ip) 4) ((TF ip) 5) ((TF ip) 8) ((TF ip) 9) ((TF ip) 17) 0 ((TA ip) 2) from ⟨(by first | exact lk | exact lk_eq lk (by omega) | exact lk_mk (by omega)), ⟨by omega, by omega⟩, ⟨by omega, by omega⟩, ⟨by omega, by omega⟩, by omega, ⟨by decide, by decide⟩, (by show _ + _ + (0 : Int) ≤ 100; omega), hrt⟩) _) hT (pr := [wd_Ker cs hk kr (fun _ => none) kf ka (gKe pq pz tq rq), fm 8 (fPp cs pq PV), fo 13 (fRw cs rq RR RM RW RF RA RC) p0.toNatClampNeg, wd_Raw cs q12 (RR p0.toNatClampNeg) (fun k => if k = 2 then (RM p0.toNatClampNeg) else if k = 4 then (some ((PV j69).r 1)) else none) (RF p0.toNatClampNeg) (RA p0.toNatClampNeg) (fun _ _ => none), nA cs (RM p0.toNatClampNeg) 36864 (RC p0.toNatClampNeg), fo 13 (fTx cs tq TR TO TF TA) ip]) (pcs := [wd_Txp cs hx (TR ip) (fun k => if k = 3 then (some hp1) else none) (TF ip) (TA ip) (fun _ _ => none)]) hw px_X.tt (C := "HomeSystem$TextProcess") (owner := "HomeSystem$AnyProcess") (x := ⟨"HomeSystem$AnyProcess", "answer", "(I)V"⟩) (px_recv hT hw 6 0 rfl rfl rfl) m8_75 m8_67 m8_69 m8_74 m8_73 m1_35 m8_68n ⟨by decide, by decide⟩ rfl q_Txp_answer ⟨Nat.le_of_ble_eq_true rfl, Nat.le_of_ble_eq_true rfl⟩ hl.1 rfl (Nat.le_of_ble_eq_true rfl) d_Ker_await_66 ⟨show 0 + 0 ≤ (5 * ndS 13 tq + 4 * ndS 13 rq + ndS 13 RM) from (by first | exact oz_9c199dfd7f | omega), show 0 + 0 ≤ (9804 * ndS 13 tq + 342 * ndS 13 rq + 36864 * ndS 13 RM) from (by first | exact oz_54615505fb | omega)⟩) hw hA (fun p97 H locs hp97 hw => ?_)
              obtain ⟨f95, a96, rfl, e99, e100, e101, e102, e103, e104⟩ := hp97
              have e99 : TxOk (f95 4) (f95 5) (f95 8) (f95 9) (f95 17) (f95 21) (a96 2) := e99
              obtain ⟨lk, ⟨i2, i3⟩, ⟨i4, i5⟩, ⟨i6, i7⟩, i8, ⟨i9, i11⟩, i10, hrt⟩ := e99
              have e100 : (f95 9).toInt = ((TF ip) 9).toInt := e100
              have e101 : (f95 17).toInt = ((TF ip) 17).toInt := e101
              have e102 : (f95 21).toInt = 0 := e102
              have e103 : (f95 15).toInt = ((TF ip) 15).toInt := e103
              have e104 : (f95 20).toInt = ((TF ip) 20).toInt := e104
              have hw : pw D A s.heap H locs [wd_Ker cs hk kr (fun _ => none) kf ka (gKe pq pz tq rq), fm 8 (fPp cs pq PV), fo 13 (fRw cs rq RR RM RW RF RA RC) p0.toNatClampNeg, wd_Raw cs q12 (RR p0.toNatClampNeg) (fun k => if k = 2 then (RM p0.toNatClampNeg) else if k = 4 then (some ((PV j69).r 1)) else none) (RF p0.toNatClampNeg) (RA p0.toNatClampNeg) (fun _ _ => none), nA cs (RM p0.toNatClampNeg) 36864 (RC p0.toNatClampNeg), fo 13 (fTx cs tq TR TO TF TA) ip, wd_Txp cs hx (TR ip) (fun k => if k = 3 then (some hp1) else none) f95 a96 (fun _ _ => none)] := hw
              refine lv_iconst (v := 1) S.x S.b d_Ker_await_69 (by decide) ?_
              have hw := ftx_in0 (pr := [wd_Ker cs hk kr (fun _ => none) kf ka (gKe pq pz tq rq), fm 8 (fPp cs pq PV), fo 13 (fRw cs rq RR RM RW RF RA RC) p0.toNatClampNeg, wd_Raw cs q12 (RR p0.toNatClampNeg) (fun k => if k = 2 then (RM p0.toNatClampNeg) else if k = 4 then (some ((PV j69).r 1)) else none) (RF p0.toNatClampNeg) (RA p0.toNatClampNeg) (fun _ _ => none), nA cs (RM p0.toNatClampNeg) 36864 (RC p0.toNatClampNeg)]) hw hip hcu.1 hto1
              obtain ⟨TF105, hu_TF105⟩ : ∃ y : Nat → Nat → Int32, y = va_up TF ip f95 := ⟨_, rfl⟩
              obtain ⟨TA106, hu_TA106⟩ : ∃ y : Nat → Nat → Nat → Int32, y = va_up TA ip a96 := ⟨_, rfl⟩
              have hw : pw D A s.heap _ _ [wd_Ker cs hk kr (fun _ => none) kf ka (gKe pq pz tq rq), fm 8 (fPp cs pq PV), fo 13 (fRw cs rq RR RM RW RF RA RC) p0.toNatClampNeg, wd_Raw cs q12 (RR p0.toNatClampNeg) (fun k => if k = 2 then (RM p0.toNatClampNeg) else if k = 4 then (some ((PV j69).r 1)) else none) (RF p0.toNatClampNeg) (RA p0.toNatClampNeg) (fun _ _ => none), nA cs (RM p0.toNatClampNeg) 36864 (RC p0.toNatClampNeg), fm 13 (fTx cs tq TR TO TF105 TA106)] := (by rw [hu_TF105, hu_TA106]; exact hw)
              have hki : KnI pq PV pz tq rq TO TF105 TA106 RW RF := (by rw [hu_TF105, hu_TA106]; exact hki.upT (show TxN ip f95 a96 from ⟨(show TxOk (f95 4) (f95 5) (f95 8) (f95 9) (f95 17) (f95 21) (a96 2) from ⟨(by first | exact lk | exact lk_eq lk (by omega) | exact lk_mk (by omega)), ⟨by omega, by omega⟩, ⟨by omega, by omega⟩, ⟨by omega, by omega⟩, by omega, ⟨by omega, by omega⟩, by omega, hrt⟩), (show ((f95 15).toInt) = ((ip : Nat) : Int) from by omega), (show 0 ≤ (f95 20).toInt ∧ (f95 20).toInt ≤ 3 ∧ ((f95 20).toInt = 0 ∨ 3 * ((ip : Nat) : Int) + (f95 20).toInt ≤ 12) from by omega)⟩))
              have hz21_TF105 : (TF105 ip 21).toInt = (f95 21).toInt := (by rw [hu_TF105, va_up_s]; try rfl)
              have hw : pw D A s.heap _ _ [wd_Ker cs hk kr (fun _ => none) kf ka (gKe pq pz tq rq), fm 8 (fPp cs pq PV), fm 13 (fTx cs tq TR TO TF105 TA106), fo 13 (fRw cs rq RR RM RW RF RA RC) p0.toNatClampNeg, wd_Raw cs q12 (RR p0.toNatClampNeg) (fun k => if k = 2 then (RM p0.toNatClampNeg) else if k = 4 then (some ((PV j69).r 1)) else none) (RF p0.toNatClampNeg) (RA p0.toNatClampNeg) (fun _ _ => none), nA cs (RM p0.toNatClampNeg) 36864 (RC p0.toNatClampNeg)] := hw.sub [0, 1, 5, 2, 3, 4] rfl rfl
              have hw : pw D A s.heap _ _ [wd_Ker cs hk kr (fun _ => none) kf ka (gKe pq pz tq rq), fm 8 (fPp cs pq PV), fm 13 (fTx cs tq TR TO TF105 TA106), fm 13 (fRw cs rq RR RM RW RF RA RC)] := frw_back (pr := [wd_Ker cs hk kr (fun _ => none) kf ka (gKe pq pz tq rq), fm 8 (fPp cs pq PV), fm 13 (fTx cs tq TR TO TF105 TA106)]) hw hi14 hcu15.1 hto69
              have hw : pw D A s.heap _ _ [wd_Ker cs hk kr (fun _ => none) kf ka (gKe pq pz tq rq), fm 13 (fTx cs tq TR TO TF105 TA106), fm 13 (fRw cs rq RR RM RW RF RA RC), fm 8 (fPp cs pq PV)] := hw.sub [0, 2, 3, 1] rfl rfl
              exact pg_iret (v := 1) S hr rfl hlk hAe hw (show 0 ≤ (5 * ndS 13 tq + 4 * ndS 13 rq + ndS 13 RM) from by first | exact oz_86e49526c7 | omega) (show 0 ≤ (9804 * ndS 13 tq + 342 * ndS 13 rq + 36864 * ndS 13 RM) from by first | exact oz_fc3b58e969 | omega) (⟨pz, tq, rq, ka, TR, TO, TF105, TA106, RR, RM, RW, RF, RA, RC, rfl, (show (1 : Int32) = 0 ∨ (1 : Int32) = 1 from by first | exact Or.inl rfl | exact Or.inr rfl | exact z_or (by omega)), (show CuT pq PV tq TO ip hx from hcu), (show KnI pq PV pz tq rq TO TF105 TA106 RW RF from hki), (show RoI ka from hro), (show RmI rq RM from hrm), (show 0 + (5 * ndS 13 tq + 4 * ndS 13 rq + ndS 13 RM) ≤ 5 * ndS 13 tq + 4 * ndS 13 rq + ndS 13 RM from by first | exact oz_9d19b050ad | omega), (show 0 + (9804 * ndS 13 tq + 342 * ndS 13 rq + 36864 * ndS 13 RM) ≤ 9804 * ndS 13 tq + 342 * ndS 13 rq + 36864 * ndS 13 RM from by first | exact oz_b5592d0ae7 | omega)⟩) d_Ker_await_70
            · have nc88 : ((RF p0.toNatClampNeg) 11).toInt = (1 : Int) := (i_eq (x := ((RF p0.toNatClampNeg) 11)) (y := 1)).mp c88
              refine lv_aload_n S.x S.b d_Ker_await_52 rfl (lv_at hl 1 rfl) ?_
              refine px_get S k_Ker hT hw 0 0 2 (v := .ref (kr 2)) rfl rfl rfl (by decide) m2_222 d_Ker_await_53 ?_
              refine lv_iload_n S.x S.b d_Ker_await_56 rfl (lv_at hl 3 rfl) ?_
              refine px_aaldS S hT hw 0 3 6 (n := 13) (f := pz) rfl rfl rfl (x := p0) (vp_in_iff.mpr (by first | exact oz_3859d57d28 hc14 hi14 | (constructor <;> omega))) (sk := q12) hr14 d_Ker_await_57 ?_
              refine px_get S k_Raw hT hw 4 0 12 (v := .int ((RF p0.toNatClampNeg) 12)) rfl rfl rfl (by decide) m6_146 d_Ker_await_58 ?_
              refine lv_goto (tgt := 66) S.x S.b d_Ker_await_61 (by decide) ?_
              have hw : pw D A s.heap _ _ [wd_Ker cs hk kr (fun _ => none) kf ka (gKe pq pz tq rq), fm 8 (fPp cs pq PV), fo 13 (fRw cs rq RR RM RW RF RA RC) p0.toNatClampNeg, wd_Raw cs q12 (RR p0.toNatClampNeg) (fun k => if k = 2 then (RM p0.toNatClampNeg) else if k = 4 then (some ((PV j69).r 1)) else none) (RF p0.toNatClampNeg) (RA p0.toNatClampNeg) (fun _ _ => none), nA cs (RM p0.toNatClampNeg) 36864 (RC p0.toNatClampNeg), fm 13 (fTx cs tq TR TO TF TA)] := hw.sub [0, 2, 3, 4, 5, 1] rfl rfl
              have hw : pw D A s.heap _ _ [wd_Ker cs hk kr (fun _ => none) kf ka (gKe pq pz tq rq), fm 8 (fPp cs pq PV), fo 13 (fRw cs rq RR RM RW RF RA RC) p0.toNatClampNeg, wd_Raw cs q12 (RR p0.toNatClampNeg) (fun k => if k = 2 then (RM p0.toNatClampNeg) else if k = 4 then (some ((PV j69).r 1)) else none) (RF p0.toNatClampNeg) (RA p0.toNatClampNeg) (fun _ _ => none), nA cs (RM p0.toNatClampNeg) 36864 (RC p0.toNatClampNeg), fo 13 (fTx cs tq TR TO TF TA) ip, wd_Txp cs hx (TR ip) (fun k => if k = 3 then (some hp1) else none) (TF ip) (TA ip) (fun _ _ => none)] := ftx_out (pr := [wd_Ker cs hk kr (fun _ => none) kf ka (gKe pq pz tq rq), fm 8 (fPp cs pq PV), fo 13 (fRw cs rq RR RM RW RF RA RC) p0.toNatClampNeg, wd_Raw cs q12 (RR p0.toNatClampNeg) (fun k => if k = 2 then (RM p0.toNatClampNeg) else if k = 4 then (some ((PV j69).r 1)) else none) (RF p0.toNatClampNeg) (RA p0.toNatClampNeg) (fun _ _ => none), nA cs (RM p0.toNatClampNeg) 36864 (RC p0.toNatClampNeg)]) hw hip hcu.1 hto1
              have htn107 : TxN ip (TF ip) (TA ip) := hki.2.1 ip hip _ hcu.1
              obtain ⟨lk, ⟨i2, i3⟩, ⟨i4, i5⟩, ⟨i6, i7⟩, i8, ⟨i9, i11⟩, i10, hrt⟩ := htn107.1
              have hid107 := htn107.2.1
              have hch107 := htn107.2.2
              unfold KcI at hch107
              refine px_callv (pr := [wd_Ker cs hk kr (fun _ => none) kf ka (gKe pq pz tq rq), fm 8 (fPp cs pq PV), fo 13 (fRw cs rq RR RM RW RF RA RC) p0.toNatClampNeg, wd_Raw cs q12 (RR p0.toNatClampNeg) (fun k => if k = 2 then (RM p0.toNatClampNeg) else if k = 4 then (some ((PV j69).r 1)) else none) (RF p0.toNatClampNeg) (RA p0.toNatClampNeg) (fun _ _ => none), nA cs (RM p0.toNatClampNeg) 36864 (RC p0.toNatClampNeg), fo 13 (fTx cs tq TR TO TF TA) ip]) (px_runA (As := [.int ((RF p0.toNatClampNeg) 12)]) (rest := []) S (c_Txp_answer l D cs hx (TR ip) (fun _ _ => none) hp1 (TF ip) (TA ip) ((RF p0.toNatClampNeg) 12)  (show TxOk ((TF ip) 4) ((TF ip) 5) ((TF ip) 8) ((TF ip) 9) ((TF ip) 17) 0 ((TA ip) 2) from ⟨(by first | exact lk | exact lk_eq lk (by omega) | exact lk_mk (by omega)), ⟨by omega, by omega⟩, ⟨by omega, by omega⟩, ⟨by omega, by omega⟩, by omega, ⟨by decide, by decide⟩, (by show _ + _ + (0 : Int) ≤ 100; omega), hrt⟩) _) hT (pr := [wd_Ker cs hk kr (fun _ => none) kf ka (gKe pq pz tq rq), fm 8 (fPp cs pq PV), fo 13 (fRw cs rq RR RM RW RF RA RC) p0.toNatClampNeg, wd_Raw cs q12 (RR p0.toNatClampNeg) (fun k => if k = 2 then (RM p0.toNatClampNeg) else if k = 4 then (some ((PV j69).r 1)) else none) (RF p0.toNatClampNeg) (RA p0.toNatClampNeg) (fun _ _ => none), nA cs (RM p0.toNatClampNeg) 36864 (RC p0.toNatClampNeg), fo 13 (fTx cs tq TR TO TF TA) ip]) (pcs := [wd_Txp cs hx (TR ip) (fun k => if k = 3 then (some hp1) else none) (TF ip) (TA ip) (fun _ _ => none)]) hw px_X.tt (C := "HomeSystem$TextProcess") (owner := "HomeSystem$AnyProcess") (x := ⟨"HomeSystem$AnyProcess", "answer", "(I)V"⟩) (px_recv hT hw 6 0 rfl rfl rfl) m8_75 m8_67 m8_69 m8_74 m8_73 m1_35 m8_68n ⟨by decide, by decide⟩ rfl q_Txp_answer ⟨Nat.le_of_ble_eq_true rfl, Nat.le_of_ble_eq_true rfl⟩ hl.1 rfl (Nat.le_of_ble_eq_true rfl) d_Ker_await_66 ⟨show 0 + 0 ≤ (5 * ndS 13 tq + 4 * ndS 13 rq + ndS 13 RM) from (by first | exact oz_9c199dfd7f | omega), show 0 + 0 ≤ (9804 * ndS 13 tq + 342 * ndS 13 rq + 36864 * ndS 13 RM) from (by first | exact oz_54615505fb | omega)⟩) hw hA (fun p112 H locs hp112 hw => ?_)
              obtain ⟨f110, a111, rfl, e114, e115, e116, e117, e118, e119⟩ := hp112
              have e114 : TxOk (f110 4) (f110 5) (f110 8) (f110 9) (f110 17) (f110 21) (a111 2) := e114
              obtain ⟨lk, ⟨i2, i3⟩, ⟨i4, i5⟩, ⟨i6, i7⟩, i8, ⟨i9, i11⟩, i10, hrt⟩ := e114
              have e115 : (f110 9).toInt = ((TF ip) 9).toInt := e115
              have e116 : (f110 17).toInt = ((TF ip) 17).toInt := e116
              have e117 : (f110 21).toInt = 0 := e117
              have e118 : (f110 15).toInt = ((TF ip) 15).toInt := e118
              have e119 : (f110 20).toInt = ((TF ip) 20).toInt := e119
              have hw : pw D A s.heap H locs [wd_Ker cs hk kr (fun _ => none) kf ka (gKe pq pz tq rq), fm 8 (fPp cs pq PV), fo 13 (fRw cs rq RR RM RW RF RA RC) p0.toNatClampNeg, wd_Raw cs q12 (RR p0.toNatClampNeg) (fun k => if k = 2 then (RM p0.toNatClampNeg) else if k = 4 then (some ((PV j69).r 1)) else none) (RF p0.toNatClampNeg) (RA p0.toNatClampNeg) (fun _ _ => none), nA cs (RM p0.toNatClampNeg) 36864 (RC p0.toNatClampNeg), fo 13 (fTx cs tq TR TO TF TA) ip, wd_Txp cs hx (TR ip) (fun k => if k = 3 then (some hp1) else none) f110 a111 (fun _ _ => none)] := hw
              refine lv_iconst (v := 1) S.x S.b d_Ker_await_69 (by decide) ?_
              have hw := ftx_in0 (pr := [wd_Ker cs hk kr (fun _ => none) kf ka (gKe pq pz tq rq), fm 8 (fPp cs pq PV), fo 13 (fRw cs rq RR RM RW RF RA RC) p0.toNatClampNeg, wd_Raw cs q12 (RR p0.toNatClampNeg) (fun k => if k = 2 then (RM p0.toNatClampNeg) else if k = 4 then (some ((PV j69).r 1)) else none) (RF p0.toNatClampNeg) (RA p0.toNatClampNeg) (fun _ _ => none), nA cs (RM p0.toNatClampNeg) 36864 (RC p0.toNatClampNeg)]) hw hip hcu.1 hto1
              obtain ⟨TF120, hu_TF120⟩ : ∃ y : Nat → Nat → Int32, y = va_up TF ip f110 := ⟨_, rfl⟩
              obtain ⟨TA121, hu_TA121⟩ : ∃ y : Nat → Nat → Nat → Int32, y = va_up TA ip a111 := ⟨_, rfl⟩
              have hw : pw D A s.heap _ _ [wd_Ker cs hk kr (fun _ => none) kf ka (gKe pq pz tq rq), fm 8 (fPp cs pq PV), fo 13 (fRw cs rq RR RM RW RF RA RC) p0.toNatClampNeg, wd_Raw cs q12 (RR p0.toNatClampNeg) (fun k => if k = 2 then (RM p0.toNatClampNeg) else if k = 4 then (some ((PV j69).r 1)) else none) (RF p0.toNatClampNeg) (RA p0.toNatClampNeg) (fun _ _ => none), nA cs (RM p0.toNatClampNeg) 36864 (RC p0.toNatClampNeg), fm 13 (fTx cs tq TR TO TF120 TA121)] := (by rw [hu_TF120, hu_TA121]; exact hw)
              have hki : KnI pq PV pz tq rq TO TF120 TA121 RW RF := (by rw [hu_TF120, hu_TA121]; exact hki.upT (show TxN ip f110 a111 from ⟨(show TxOk (f110 4) (f110 5) (f110 8) (f110 9) (f110 17) (f110 21) (a111 2) from ⟨(by first | exact lk | exact lk_eq lk (by omega) | exact lk_mk (by omega)), ⟨by omega, by omega⟩, ⟨by omega, by omega⟩, ⟨by omega, by omega⟩, by omega, ⟨by omega, by omega⟩, by omega, hrt⟩), (show ((f110 15).toInt) = ((ip : Nat) : Int) from by omega), (show 0 ≤ (f110 20).toInt ∧ (f110 20).toInt ≤ 3 ∧ ((f110 20).toInt = 0 ∨ 3 * ((ip : Nat) : Int) + (f110 20).toInt ≤ 12) from by omega)⟩))
              have hz21_TF120 : (TF120 ip 21).toInt = (f110 21).toInt := (by rw [hu_TF120, va_up_s]; try rfl)
              have hw : pw D A s.heap _ _ [wd_Ker cs hk kr (fun _ => none) kf ka (gKe pq pz tq rq), fm 8 (fPp cs pq PV), fm 13 (fTx cs tq TR TO TF120 TA121), fo 13 (fRw cs rq RR RM RW RF RA RC) p0.toNatClampNeg, wd_Raw cs q12 (RR p0.toNatClampNeg) (fun k => if k = 2 then (RM p0.toNatClampNeg) else if k = 4 then (some ((PV j69).r 1)) else none) (RF p0.toNatClampNeg) (RA p0.toNatClampNeg) (fun _ _ => none), nA cs (RM p0.toNatClampNeg) 36864 (RC p0.toNatClampNeg)] := hw.sub [0, 1, 5, 2, 3, 4] rfl rfl
              have hw : pw D A s.heap _ _ [wd_Ker cs hk kr (fun _ => none) kf ka (gKe pq pz tq rq), fm 8 (fPp cs pq PV), fm 13 (fTx cs tq TR TO TF120 TA121), fm 13 (fRw cs rq RR RM RW RF RA RC)] := frw_back (pr := [wd_Ker cs hk kr (fun _ => none) kf ka (gKe pq pz tq rq), fm 8 (fPp cs pq PV), fm 13 (fTx cs tq TR TO TF120 TA121)]) hw hi14 hcu15.1 hto69
              have hw : pw D A s.heap _ _ [wd_Ker cs hk kr (fun _ => none) kf ka (gKe pq pz tq rq), fm 13 (fTx cs tq TR TO TF120 TA121), fm 13 (fRw cs rq RR RM RW RF RA RC), fm 8 (fPp cs pq PV)] := hw.sub [0, 2, 3, 1] rfl rfl
              exact pg_iret (v := 1) S hr rfl hlk hAe hw (show 0 ≤ (5 * ndS 13 tq + 4 * ndS 13 rq + ndS 13 RM) from by first | exact oz_86e49526c7 | omega) (show 0 ≤ (9804 * ndS 13 tq + 342 * ndS 13 rq + 36864 * ndS 13 RM) from by first | exact oz_fc3b58e969 | omega) (⟨pz, tq, rq, ka, TR, TO, TF120, TA121, RR, RM, RW, RF, RA, RC, rfl, (show (1 : Int32) = 0 ∨ (1 : Int32) = 1 from by first | exact Or.inl rfl | exact Or.inr rfl | exact z_or (by omega)), (show CuT pq PV tq TO ip hx from hcu), (show KnI pq PV pz tq rq TO TF120 TA121 RW RF from hki), (show RoI ka from hro), (show RmI rq RM from hrm), (show 0 + (5 * ndS 13 tq + 4 * ndS 13 rq + ndS 13 RM) ≤ 5 * ndS 13 tq + 4 * ndS 13 rq + ndS 13 RM from by first | exact oz_9d19b050ad | omega), (show 0 + (9804 * ndS 13 tq + 342 * ndS 13 rq + 36864 * ndS 13 RM) ≤ 9804 * ndS 13 tq + 342 * ndS 13 rq + 36864 * ndS 13 RM from by first | exact oz_b5592d0ae7 | omega)⟩) d_Ker_await_70
      ·
        subst c11
        have nd0_c11 := nd_0
        have hc122 := cl_nat (x := p0) (by first | exact oz_016f458179 hc122 | omega)
        have hi122 : p0.toNatClampNeg < 13 := by first | exact oz_50e7088b63 hc122 g0 | omega
        have hr122 := hy10.symm
        refine lv_iconst (v := 0) S.x S.b d_Ker_await_30 (by decide) ?_
        exact pg_iret (v := 0) S hr rfl hlk hAe hw (show 0 ≤ (5 * ndS 13 tq + 4 * ndS 13 rq + ndS 13 RM) from by first | exact oz_86e49526c7 | omega) (show 0 ≤ (9804 * ndS 13 tq + 342 * ndS 13 rq + 36864 * ndS 13 RM) from by first | exact oz_fc3b58e969 | omega) (⟨pz, tq, rq, ka, TR, TO, TF, TA, RR, RM, RW, RF, RA, RC, rfl, (show (0 : Int32) = 0 ∨ (0 : Int32) = 1 from by first | exact Or.inl rfl | exact Or.inr rfl | exact z_or (by omega)), (show CuT pq PV tq TO ip hx from hcu), (show KnI pq PV pz tq rq TO TF TA RW RF from hki), (show RoI ka from hro), (show RmI rq RM from hrm), (show 0 + (5 * ndS 13 tq + 4 * ndS 13 rq + ndS 13 RM) ≤ 5 * ndS 13 tq + 4 * ndS 13 rq + ndS 13 RM from by first | exact oz_9d19b050ad | omega), (show 0 + (9804 * ndS 13 tq + 342 * ndS 13 rq + 36864 * ndS 13 RM) ≤ 9804 * ndS 13 tq + 342 * ndS 13 rq + 36864 * ndS 13 RM from by first | exact oz_b5592d0ae7 | omega)⟩) d_Ker_await_31
  · have nc2 : p0.toInt = (-1 : Int) := (i_eq (x := p0) (y := (-1))).mp c2
    refine lv_aload_n S.x S.b d_Ker_await_5 rfl (lv_at hl 1 rfl) ?_
    refine lv_iconst (v := 2) S.x S.b d_Ker_await_6 (by decide) ?_
    refine lv_iconst (v := 0) S.x S.b d_Ker_await_7 (by decide) ?_
    have hw : pw D A s.heap _ _ [wd_Ker cs hk kr (fun _ => none) kf ka (gKe pq pz tq rq), fm 13 (fRw cs rq RR RM RW RF RA RC), fm 8 (fPp cs pq PV), fm 13 (fTx cs tq TR TO TF TA)] := hw.sub [0, 2, 3, 1] rfl rfl
    have hw : pw D A s.heap _ _ [wd_Ker cs hk kr (fun _ => none) kf ka (gKe pq pz tq rq), fm 13 (fRw cs rq RR RM RW RF RA RC), fm 8 (fPp cs pq PV), fo 13 (fTx cs tq TR TO TF TA) ip, wd_Txp cs hx (TR ip) (fun k => if k = 3 then (some hp1) else none) (TF ip) (TA ip) (fun _ _ => none)] := ftx_out (pr := [wd_Ker cs hk kr (fun _ => none) kf ka (gKe pq pz tq rq), fm 13 (fRw cs rq RR RM RW RF RA RC), fm 8 (fPp cs pq PV)]) hw hip hcu.1 hto1
    have htn123 : TxN ip (TF ip) (TA ip) := hki.2.1 ip hip _ hcu.1
    obtain ⟨lk, ⟨i2, i3⟩, ⟨i4, i5⟩, ⟨i6, i7⟩, i8, ⟨i9, i11⟩, i10, hrt⟩ := htn123.1
    have hid123 := htn123.2.1
    have hch123 := htn123.2.2
    unfold KcI at hch123
    refine px_callv (pr := [wd_Ker cs hk kr (fun _ => none) kf ka (gKe pq pz tq rq), fm 13 (fRw cs rq RR RM RW RF RA RC), fm 8 (fPp cs pq PV), fo 13 (fTx cs tq TR TO TF TA) ip]) (px_runU (As := [.int 2, .int 0]) (rest := []) S (c_finish_Txp l D cs hx (TR ip) (fun _ _ => none) hp1 (TF ip) (TA ip) 2 0  (show TxOk ((TF ip) 4) ((TF ip) 5) ((TF ip) 8) ((TF ip) 9) ((TF ip) 17) ((TF ip) 21) ((TA ip) 2) from ⟨(by first | exact lk | exact lk_eq lk (by omega) | exact lk_mk (by omega)), ⟨by omega, by omega⟩, ⟨by omega, by omega⟩, ⟨by omega, by omega⟩, by omega, ⟨by first | exact oz_1b364b1c5f g1 | omega, by first | exact oz_02032f9386 g1 | omega⟩, by omega, hrt⟩) _) hT (pr := [wd_Ker cs hk kr (fun _ => none) kf ka (gKe pq pz tq rq), fm 13 (fRw cs rq RR RM RW RF RA RC), fm 8 (fPp cs pq PV), fo 13 (fTx cs tq TR TO TF TA) ip]) (pcs := [wd_Txp cs hx (TR ip) (fun k => if k = 3 then (some hp1) else none) (TF ip) (TA ip) (fun _ _ => none)]) hw px_X.tt (C := "HomeSystem$TextProcess") (x := ⟨"HomeSystem$AnyProcess", "finish", "(II)V"⟩) (px_recv hT hw 4 0 rfl rfl rfl) m8_89 m8_84 m8_86 m8_85 m8_88 m1_33 rfl q_HomeSystem_AnyProcess_finish ⟨Nat.le_of_ble_eq_true rfl, Nat.le_of_ble_eq_true rfl⟩ hl.1 rfl (Nat.le_of_ble_eq_true rfl) d_Ker_await_8 ⟨show 0 + 0 ≤ (5 * ndS 13 tq + 4 * ndS 13 rq + ndS 13 RM) from (by first | exact oz_9c199dfd7f | omega), show 0 + 0 ≤ (9804 * ndS 13 tq + 342 * ndS 13 rq + 36864 * ndS 13 RM) from (by first | exact oz_54615505fb | omega)⟩) hw hA (fun p126 H locs hp126 hw => ?_)
    obtain ⟨f124, a125, rfl, h134, e128, e129, e130, e131, e132, e133⟩ := hp126
    obtain ⟨lk, ⟨i2, i3⟩, ⟨i4, i5⟩, ⟨i6, i7⟩, i8, ⟨i9, i11⟩, i10, hrt⟩ := h134
    have e128 : (f124 9).toInt = ((TF ip) 9).toInt := e128
    have e129 : (f124 17).toInt = ((TF ip) 17).toInt := e129
    have e130 : (f124 21).toInt = 0 := e130
    have e131 : (f124 15).toInt = ((TF ip) 15).toInt := e131
    have e132 : (f124 20).toInt = ((TF ip) 20).toInt := e132
    have e133 : R_finish_Txp (2 : Int32) (0 : Int32) (TF ip) (TA ip) f124 a125 := e133
    have hw : pw D A s.heap H locs [wd_Ker cs hk kr (fun _ => none) kf ka (gKe pq pz tq rq), fm 13 (fRw cs rq RR RM RW RF RA RC), fm 8 (fPp cs pq PV), fo 13 (fTx cs tq TR TO TF TA) ip, wd_Txp cs hx (TR ip) (fun k => if k = 3 then (some hp1) else none) f124 a125 (fun _ _ => none)] := hw
    refine lv_iconst (v := 1) S.x S.b d_Ker_await_11 (by decide) ?_
    have hw := ftx_in0 (pr := [wd_Ker cs hk kr (fun _ => none) kf ka (gKe pq pz tq rq), fm 13 (fRw cs rq RR RM RW RF RA RC), fm 8 (fPp cs pq PV)]) hw hip hcu.1 hto1
    obtain ⟨TF135, hu_TF135⟩ : ∃ y : Nat → Nat → Int32, y = va_up TF ip f124 := ⟨_, rfl⟩
    obtain ⟨TA136, hu_TA136⟩ : ∃ y : Nat → Nat → Nat → Int32, y = va_up TA ip a125 := ⟨_, rfl⟩
    have hw : pw D A s.heap _ _ [wd_Ker cs hk kr (fun _ => none) kf ka (gKe pq pz tq rq), fm 13 (fRw cs rq RR RM RW RF RA RC), fm 8 (fPp cs pq PV), fm 13 (fTx cs tq TR TO TF135 TA136)] := (by rw [hu_TF135, hu_TA136]; exact hw)
    have hki : KnI pq PV pz tq rq TO TF135 TA136 RW RF := (by rw [hu_TF135, hu_TA136]; exact hki.upT (show TxN ip f124 a125 from ⟨(show TxOk (f124 4) (f124 5) (f124 8) (f124 9) (f124 17) (f124 21) (a125 2) from ⟨(by first | exact lk | exact lk_eq lk (by omega) | exact lk_mk (by omega)), ⟨by omega, by omega⟩, ⟨by omega, by omega⟩, ⟨by omega, by omega⟩, by omega, ⟨by omega, by omega⟩, by omega, hrt⟩), (show ((f124 15).toInt) = ((ip : Nat) : Int) from by omega), (show 0 ≤ (f124 20).toInt ∧ (f124 20).toInt ≤ 3 ∧ ((f124 20).toInt = 0 ∨ 3 * ((ip : Nat) : Int) + (f124 20).toInt ≤ 12) from by omega)⟩))
    have hz21_TF135 : (TF135 ip 21).toInt = (f124 21).toInt := (by rw [hu_TF135, va_up_s]; try rfl)
    have hw : pw D A s.heap _ _ [wd_Ker cs hk kr (fun _ => none) kf ka (gKe pq pz tq rq), fm 13 (fTx cs tq TR TO TF135 TA136), fm 13 (fRw cs rq RR RM RW RF RA RC), fm 8 (fPp cs pq PV)] := hw.sub [0, 3, 1, 2] rfl rfl
    exact pg_iret (v := 1) S hr rfl hlk hAe hw (show 0 ≤ (5 * ndS 13 tq + 4 * ndS 13 rq + ndS 13 RM) from by first | exact oz_86e49526c7 | omega) (show 0 ≤ (9804 * ndS 13 tq + 342 * ndS 13 rq + 36864 * ndS 13 RM) from by first | exact oz_fc3b58e969 | omega) (⟨pz, tq, rq, ka, TR, TO, TF135, TA136, RR, RM, RW, RF, RA, RC, rfl, (show (1 : Int32) = 0 ∨ (1 : Int32) = 1 from by first | exact Or.inl rfl | exact Or.inr rfl | exact z_or (by omega)), (show CuT pq PV tq TO ip hx from hcu), (show KnI pq PV pz tq rq TO TF135 TA136 RW RF from hki), (show RoI ka from hro), (show RmI rq RM from hrm), (show 0 + (5 * ndS 13 tq + 4 * ndS 13 rq + ndS 13 RM) ≤ 5 * ndS 13 tq + 4 * ndS 13 rq + ndS 13 RM from by first | exact oz_9d19b050ad | omega), (show 0 + (9804 * ndS 13 tq + 342 * ndS 13 rq + 36864 * ndS 13 RM) ≤ 9804 * ndS 13 tq + 342 * ndS 13 rq + 36864 * ndS 13 RM from by first | exact oz_b5592d0ae7 | omega)⟩) d_Ker_await_12
set_option maxHeartbeats 4000000 in
set_option maxRecDepth 100000 in
theorem c_k_await_R (l : Launch) (D : va_G) (cs : Nat → ClassId) (hk : Nat) (kr : Nat → Nat) (pq : Nat → Option Nat) (kf : Nat → Int32) (PV : Nat → Pvs) (pz : Nat → Option Nat) (tq : Nat → Option Nat) (rq : Nat → Option Nat) (ka : Nat → Nat → Int32) (TR : Nat → Nat → Nat) (TO : Nat → Option Nat) (TF : Nat → Nat → Int32) (TA : Nat → Nat → Nat → Int32) (RR : Nat → Nat → Nat) (RM : Nat → Option Nat) (RW : Nat → Option Nat) (RF : Nat → Nat → Int32) (RA : Nat → Nat → Nat → Int32) (RC : Nat → Nat → Int32) (p0 : Int32) (ip hx : Nat) (g0 : p0.toInt = -1 ∨ (0 ≤ p0.toInt ∧ p0.toInt ≤ 12)) (g1 : (RF ip 14).toInt = 1) (hki : KnI pq PV pz tq rq TO TF TA RW RF) (hro : RoI ka) (hrm : RmI rq RM) (hip : ip < 13) (hcu : CuR pq PV rq RW ip hx) : MgI l y_Ker_await b_Ker_await 4 (.boolean) D cs 4 160 ((5 * ndS 13 tq + 4 * ndS 13 rq + ndS 13 RM)) ((9804 * ndS 13 tq + 342 * ndS 13 rq + 36864 * ndS 13 RM)) [.ref hk, .ref hx, .int p0] [wd_Ker cs hk kr (fun _ => none) kf ka (gKe pq pz tq rq), fm 13 (fTx cs tq TR TO TF TA), fm 13 (fRw cs rq RR RM RW RF RA RC), fm 8 (fPp cs pq PV)] (fun _ => True) (fun v ps => ∃ (pz' : Nat → Option Nat) (tq' : Nat → Option Nat) (rq' : Nat → Option Nat) (ka' : Nat → Nat → Int32) (TR' : Nat → Nat → Nat) (TO' : Nat → Option Nat) (TF' : Nat → Nat → Int32) (TA' : Nat → Nat → Nat → Int32) (RR' : Nat → Nat → Nat) (RM' : Nat → Option Nat) (RW' : Nat → Option Nat) (RF' : Nat → Nat → Int32) (RA' : Nat → Nat → Nat → Int32) (RC' : Nat → Nat → Int32), (ps.1 = [wd_Ker cs hk kr (fun _ => none) kf ka' (gKe pq pz' tq' rq'), fm 13 (fTx cs tq' TR' TO' TF' TA'), fm 13 (fRw cs rq' RR' RM' RW' RF' RA' RC'), fm 8 (fPp cs pq PV)]) ∧ (v = 0 ∨ v = 1) ∧ (CuR pq PV rq' RW' ip hx) ∧ (KnI pq PV pz' tq' rq' TO' TF' TA' RW' RF') ∧ (RoI ka') ∧ (RmI rq' RM') ∧ (ps.2.1 + (5 * ndS 13 tq' + 4 * ndS 13 rq' + ndS 13 RM') ≤ 5 * ndS 13 tq + 4 * ndS 13 rq + ndS 13 RM) ∧ (ps.2.2 + (9804 * ndS 13 tq' + 342 * ndS 13 rq' + 36864 * ndS 13 RM') ≤ 9804 * ndS 13 tq + 342 * ndS 13 rq + 36864 * ndS 13 RM)) := by
  refine pg_enter (by decide) (Nat.le_of_ble_eq_true rfl) ?_
  intro p e s m below meth c A ls hAe S hr hlk hnm hA hT hX hw hl
  have hl : lv_has ls 4 [(0, .ref hk), (1, .ref hx), (2, .int p0)] := hl
  have lp0 := Int32.le_toInt p0
  have up0 := Int32.toInt_lt p0
  have cstm1 : ((-1) : Int32).toInt = (-1) := rfl
  have cst0 : (0 : Int32).toInt = 0 := rfl
  have cst1 : (1 : Int32).toInt = 1 := rfl
  have cst2 : (2 : Int32).toInt = 2 := rfl
  refine lv_iload_n S.x S.b d_Ker_await_0 rfl (lv_at hl 2 rfl) ?_
  obtain ⟨j1, hp1, hj1, hjq1, hto1⟩ := hcu.2
  refine lv_iconst (v := (-1)) S.x S.b d_Ker_await_1 (by decide) ?_
  refine lv_icmp_ne (tgt := 13) S.x S.b d_Ker_await_2 (by decide) (fun c2 => ?_) (fun c2 => ?_)
  · have nc2 : ¬ p0.toInt = (-1 : Int) := mt (i_eq (x := p0) (y := (-1))).mpr c2
    refine lv_aload_n S.x S.b d_Ker_await_13 rfl (lv_at hl 0 rfl) ?_
    refine lv_iload_n S.x S.b d_Ker_await_14 rfl (lv_at hl 2 rfl) ?_
    refine px_calli (pr := []) (px_runV (As := [.int p0]) (rest := []) S (c_k_isRunning l D cs hk kr pq pz tq rq kf ka TR TO TF TA RR RM RW RF RA RC PV p0  (show 0 ≤ p0.toInt from by omega) (show p0.toInt ≤ 12 from by omega) hki _) hT (pr := []) (pcs := [wd_Ker cs hk kr (fun _ => none) kf ka (gKe pq pz tq rq), fm 13 (fTx cs tq TR TO TF TA), fm 13 (fRw cs rq RR RM RW RF RA RC), fm 8 (fPp cs pq PV)]) hw px_X.tt (px_recv hT hw 0 0 rfl rfl rfl) m8_154 m8_151 m8_153 ms_6_1 m1_19 q_Ker_isRunning ⟨Nat.le_of_ble_eq_true rfl, Nat.le_of_ble_eq_true rfl⟩ hl.1 rfl (Nat.le_of_ble_eq_true rfl) d_Ker_await_15 ⟨show 0 + 0 ≤ (5 * ndS 13 tq + 4 * ndS 13 rq + ndS 13 RM) from (by first | exact oz_9c199dfd7f | omega), show 0 + 0 ≤ (9804 * ndS 13 tq + 342 * ndS 13 rq + 36864 * ndS 13 RM) from (by first | exact oz_54615505fb | omega)⟩) hw hA (fun v5 p4 H locs hp4 hw => ?_)
    obtain ⟨rfl, e6, e7⟩ := hp4
    have e6 := z_rng e6
    have e7 : NnP pz p0 v5 := e7
    have hw : pw D A s.heap H locs [wd_Ker cs hk kr (fun _ => none) kf ka (gKe pq pz tq rq), fm 13 (fTx cs tq TR TO TF TA), fm 13 (fRw cs rq RR RM RW RF RA RC), fm 8 (fPp cs pq PV)] := hw
    have lv5 := Int32.le_toInt v5
    have uv5 := Int32.toInt_lt v5
    refine lv_if_ne (tgt := 30) S.x S.b d_Ker_await_18 (by decide) (fun c8 => ?_) (fun c8 => ?_)
    · have nc8 : ¬ v5.toInt = (0 : Int) := mt (i_eq (x := v5) (y := 0)).mpr c8
      refine lv_iconst (v := 0) S.x S.b d_Ker_await_30 (by decide) ?_
      exact pg_iret (v := 0) S hr rfl hlk hAe hw (show 0 ≤ (5 * ndS 13 tq + 4 * ndS 13 rq + ndS 13 RM) from by first | exact oz_86e49526c7 | omega) (show 0 ≤ (9804 * ndS 13 tq + 342 * ndS 13 rq + 36864 * ndS 13 RM) from by first | exact oz_fc3b58e969 | omega) (⟨pz, tq, rq, ka, TR, TO, TF, TA, RR, RM, RW, RF, RA, RC, rfl, (show (0 : Int32) = 0 ∨ (0 : Int32) = 1 from by first | exact Or.inl rfl | exact Or.inr rfl | exact z_or (by omega)), (show CuR pq PV rq RW ip hx from hcu), (show KnI pq PV pz tq rq TO TF TA RW RF from hki), (show RoI ka from hro), (show RmI rq RM from hrm), (show 0 + (5 * ndS 13 tq + 4 * ndS 13 rq + ndS 13 RM) ≤ 5 * ndS 13 tq + 4 * ndS 13 rq + ndS 13 RM from by first | exact oz_9d19b050ad | omega), (show 0 + (9804 * ndS 13 tq + 342 * ndS 13 rq + 36864 * ndS 13 RM) ≤ 9804 * ndS 13 tq + 342 * ndS 13 rq + 36864 * ndS 13 RM from by first | exact oz_b5592d0ae7 | omega)⟩) d_Ker_await_31
    · have nc8 : v5.toInt = (0 : Int) := (i_eq (x := v5) (y := 0)).mp c8
      refine lv_aload_n S.x S.b d_Ker_await_21 rfl (lv_at hl 0 rfl) ?_
      refine px_get S k_Ker hT hw 0 0 2 (v := .ref (kr 2)) rfl rfl rfl (by decide) m2_222 d_Ker_await_22 ?_
      refine lv_iload_n S.x S.b d_Ker_await_25 rfl (lv_at hl 2 rfl) ?_
      refine px_aald S hT hw 0 3 6 (n := 13) (f := pz) rfl rfl rfl (x := p0) (vp_in_iff.mpr (by constructor <;> omega)) d_Ker_await_26 ?_
      refine lq_top (fun y10 hy10 => ?_)
      refine lq_ifnonnull (x := y10) (tgt := 32) S.x S.b d_Ker_await_27 (by decide) (fun q12 c11 => ?_) (fun c11 => ?_)
      ·
        subst c11
        have nd0_c11 := nd_1 q12
        have hc14 := cl_nat (x := p0) (by first | exact oz_016f458179 hc14 | omega)
        have hi14 : p0.toNatClampNeg < 13 := by first | exact oz_50e7088b63 hc14 g0 | omega
        have hr14 := hy10.symm
        refine lv_aload_n S.x S.b d_Ker_await_32 rfl (lv_at hl 0 rfl) ?_
        refine px_get S k_Ker hT hw 0 0 2 (v := .ref (kr 2)) rfl rfl rfl (by decide) m2_222 d_Ker_await_33 ?_
        refine lv_iload_n S.x S.b d_Ker_await_36 rfl (lv_at hl 2 rfl) ?_
        refine px_aaldS S hT hw 0 3 6 (n := 13) (f := pz) rfl rfl rfl (x := p0) (vp_in_iff.mpr (by first | exact oz_3859d57d28 hc14 hi14 | (constructor <;> omega))) (sk := q12) hr14 d_Ker_await_37 ?_
        rcases hki.2.2.2 p0.toNatClampNeg hi14 with hno | ⟨h9, e9, hcu15⟩ | ⟨h9, e9, hcu15⟩
        · rw [hno] at hr14; cases hr14
        ·
          cases (hr14.symm.trans e9)
          obtain ⟨j16, hp16, hj16, hjq16, hto16, hf016⟩ := hcu15.2
          have hw : pw D A s.heap _ _ [wd_Ker cs hk kr (fun _ => none) kf ka (gKe pq pz tq rq), fm 13 (fRw cs rq RR RM RW RF RA RC), fm 8 (fPp cs pq PV), fm 13 (fTx cs tq TR TO TF TA)] := hw.sub [0, 2, 3, 1] rfl rfl
          have hw : pw D A s.heap _ _ [wd_Ker cs hk kr (fun _ => none) kf ka (gKe pq pz tq rq), fm 13 (fRw cs rq RR RM RW RF RA RC), fm 8 (fPp cs pq PV), fo 13 (fTx cs tq TR TO TF TA) p0.toNatClampNeg, wd_Txp cs q12 (TR p0.toNatClampNeg) (fun k => if k = 3 then (some hp16) else none) (TF p0.toNatClampNeg) (TA p0.toNatClampNeg) (fun _ _ => none)] := ftx_out (pr := [wd_Ker cs hk kr (fun _ => none) kf ka (gKe pq pz tq rq), fm 13 (fRw cs rq RR RM RW RF RA RC), fm 8 (fPp cs pq PV)]) hw hi14 hcu15.1 hto16
          have htn17 : TxN p0.toNatClampNeg (TF p0.toNatClampNeg) (TA p0.toNatClampNeg) := hki.2.1 p0.toNatClampNeg hi14 _ hcu15.1
          obtain ⟨lk, ⟨i2, i3⟩, ⟨i4, i5⟩, ⟨i6, i7⟩, i8, ⟨i9, i11⟩, i10, hrt⟩ := htn17.1
          have hid17 := htn17.2.1
          have hch17 := htn17.2.2
          unfold KcI at hch17
          refine px_get S k_Txp hT hw 4 0 18 (v := .int ((TF p0.toNatClampNeg) 18)) rfl rfl rfl (by decide) m6_139 d_Ker_await_38 ?_
          refine lv_istore_n (lv' := [(3, .int ((TF p0.toNatClampNeg) 18)), (0, .ref hk), (1, .ref hx), (2, .int p0)]) S.x S.b d_Ker_await_41 rfl hl (by decide) rfl (fun ls hl => ?_)
          refine lv_aload_n S.x S.b d_Ker_await_42 rfl (lv_at hl 2 rfl) ?_
          refine lv_iload_n S.x S.b d_Ker_await_43 rfl (lv_at hl 0 rfl) ?_
          refine lv_if_eq (tgt := 52) S.x S.b d_Ker_await_44 (by decide) (fun c18 => ?_) (fun c18 => ?_)
          · have nc18 : ((TF p0.toNatClampNeg) 18).toInt = (0 : Int) := (i_eq (x := ((TF p0.toNatClampNeg) 18)) (y := 0)).mp c18
            refine lv_aload_n S.x S.b d_Ker_await_52 rfl (lv_at hl 1 rfl) ?_
            refine px_get S k_Ker hT hw 0 0 2 (v := .ref (kr 2)) rfl rfl rfl (by decide) m2_222 d_Ker_await_53 ?_
            refine lv_iload_n S.x S.b d_Ker_await_56 rfl (lv_at hl 3 rfl) ?_
            refine px_aaldS S hT hw 0 3 6 (n := 13) (f := pz) rfl rfl rfl (x := p0) (vp_in_iff.mpr (by first | exact oz_3859d57d28 hc14 hi14 | (constructor <;> omega))) (sk := q12) hr14 d_Ker_await_57 ?_
            refine px_get S k_Txp hT hw 4 0 19 (v := .int ((TF p0.toNatClampNeg) 19)) rfl rfl rfl (by decide) m6_146 d_Ker_await_58 ?_
            refine lv_goto (tgt := 66) S.x S.b d_Ker_await_61 (by decide) ?_
            have hw : pw D A s.heap _ _ [wd_Ker cs hk kr (fun _ => none) kf ka (gKe pq pz tq rq), fm 8 (fPp cs pq PV), fo 13 (fTx cs tq TR TO TF TA) p0.toNatClampNeg, wd_Txp cs q12 (TR p0.toNatClampNeg) (fun k => if k = 3 then (some hp16) else none) (TF p0.toNatClampNeg) (TA p0.toNatClampNeg) (fun _ _ => none), fm 13 (fRw cs rq RR RM RW RF RA RC)] := hw.sub [0, 2, 3, 4, 1] rfl rfl
            have hw : pw D A s.heap _ _ [wd_Ker cs hk kr (fun _ => none) kf ka (gKe pq pz tq rq), fm 8 (fPp cs pq PV), fo 13 (fTx cs tq TR TO TF TA) p0.toNatClampNeg, wd_Txp cs q12 (TR p0.toNatClampNeg) (fun k => if k = 3 then (some hp16) else none) (TF p0.toNatClampNeg) (TA p0.toNatClampNeg) (fun _ _ => none), fo 13 (fRw cs rq RR RM RW RF RA RC) ip, wd_Raw cs hx (RR ip) (fun k => if k = 2 then (RM ip) else if k = 4 then (some ((PV j1).r 1)) else none) (RF ip) (RA ip) (fun _ _ => none), nA cs (RM ip) 36864 (RC ip)] := frw_out (pr := [wd_Ker cs hk kr (fun _ => none) kf ka (gKe pq pz tq rq), fm 8 (fPp cs pq PV), fo 13 (fTx cs tq TR TO TF TA) p0.toNatClampNeg, wd_Txp cs q12 (TR p0.toNatClampNeg) (fun k => if k = 3 then (some hp16) else none) (TF p0.toNatClampNeg) (TA p0.toNatClampNeg) (fun _ _ => none)]) hw hip hcu.1 hto1
            have hng20 := ndS_ge 13 RM ip hip
            have hrn20 : RwN ip (RF ip) := hki.2.2.1 ip hip _ hcu.1
            have hro20 := hrn20.1
            unfold RwO at hro20
            have hid20 := hrn20.2.1
            have hch20 := hrn20.2.2
            unfold KcI at hch20
            have hw : pw D A s.heap _ _ [wd_Ker cs hk kr (fun _ => none) kf ka (gKe pq pz tq rq), fm 8 (fPp cs pq PV), fo 13 (fTx cs tq TR TO TF TA) p0.toNatClampNeg, wd_Txp cs q12 (TR p0.toNatClampNeg) (fun k => if k = 3 then (some hp16) else none) (TF p0.toNatClampNeg) (TA p0.toNatClampNeg) (fun _ _ => none), fo 13 (fRw cs rq RR RM RW RF RA RC) ip, nA cs (RM ip) 36864 (RC ip), wd_Raw cs hx (RR ip) (fun k => if k = 2 then (RM ip) else if k = 4 then (some ((PV j1).r 1)) else none) (RF ip) (RA ip) (fun _ _ => none)] := hw.sub [0, 1, 2, 3, 4, 6, 5] rfl rfl
            refine px_callv (pr := [wd_Ker cs hk kr (fun _ => none) kf ka (gKe pq pz tq rq), fm 8 (fPp cs pq PV), fo 13 (fTx cs tq TR TO TF TA) p0.toNatClampNeg, wd_Txp cs q12 (TR p0.toNatClampNeg) (fun k => if k = 3 then (some hp16) else none) (TF p0.toNatClampNeg) (TA p0.toNatClampNeg) (fun _ _ => none), fo 13 (fRw cs rq RR RM RW RF RA RC) ip, nA cs (RM ip) 36864 (RC ip)]) (px_runA (As := [.int ((TF p0.toNatClampNeg) 19)]) (rest := []) S (c_Raw_answer l D cs hx (RR ip) (fun _ _ => none) (RM ip) (some ((PV j1).r 1)) (RF ip) (RA ip) ((TF p0.toNatClampNeg) 19)  (show 1 ≤ ((RF ip) 7).toInt from by omega) _) hT (pr := [wd_Ker cs hk kr (fun _ => none) kf ka (gKe pq pz tq rq), fm 8 (fPp cs pq PV), fo 13 (fTx cs tq TR TO TF TA) p0.toNatClampNeg, wd_Txp cs q12 (TR p0.toNatClampNeg) (fun k => if k = 3 then (some hp16) else none) (TF p0.toNatClampNeg) (TA p0.toNatClampNeg) (fun _ _ => none), fo 13 (fRw cs rq RR RM RW RF RA RC) ip, nA cs (RM ip) 36864 (RC ip)]) (pcs := [wd_Raw cs hx (RR ip) (fun k => if k = 2 then (RM ip) else if k = 4 then (some ((PV j1).r 1)) else none) (RF ip) (RA ip) (fun _ _ => none)]) hw px_X.tt (C := "HomeSystem$RawProcess") (owner := "HomeSystem$AnyProcess") (x := ⟨"HomeSystem$AnyProcess", "answer", "(I)V"⟩) (px_recv hT hw 6 0 rfl rfl rfl) m8_72 m8_67 m8_69 m8_71 m8_70 m1_34 m8_68n ⟨by decide, by decide⟩ rfl q_Raw_answer ⟨Nat.le_of_ble_eq_true rfl, Nat.le_of_ble_eq_true rfl⟩ hl.1 rfl (Nat.le_of_ble_eq_true rfl) d_Ker_await_66 ⟨show 0 + 0 ≤ (5 * ndS 13 tq + 4 * ndS 13 rq + ndS 13 RM) from (by first | exact oz_9c199dfd7f | omega), show 0 + 0 ≤ (9804 * ndS 13 tq + 342 * ndS 13 rq + 36864 * ndS 13 RM) from (by first | exact oz_54615505fb | omega)⟩) hw hA (fun p23 H locs hp23 hw => ?_)
            obtain ⟨f21, a22, rfl, e25, e26, e27, e28, e29, e30⟩ := hp23
            have e25 : (f21 7).toInt = ((RF ip) 7).toInt - 1 := e25
            have e26 : (f21 8).toInt = ((RF ip) 8).toInt := e26
            have e27 : (f21 10).toInt = ((RF ip) 10).toInt := e27
            have e28 : (f21 13).toInt = ((RF ip) 13).toInt := e28
            have e29 : (f21 14).toInt = 0 := e29
            have e30 : (f21 11).toInt = ((RF ip) 11).toInt := e30
            have hw : pw D A s.heap H locs [wd_Ker cs hk kr (fun _ => none) kf ka (gKe pq pz tq rq), fm 8 (fPp cs pq PV), fo 13 (fTx cs tq TR TO TF TA) p0.toNatClampNeg, wd_Txp cs q12 (TR p0.toNatClampNeg) (fun k => if k = 3 then (some hp16) else none) (TF p0.toNatClampNeg) (TA p0.toNatClampNeg) (fun _ _ => none), fo 13 (fRw cs rq RR RM RW RF RA RC) ip, nA cs (RM ip) 36864 (RC ip), wd_Raw cs hx (RR ip) (fun k => if k = 2 then (RM ip) else if k = 4 then (some ((PV j1).r 1)) else none) f21 a22 (fun _ _ => none)] := hw
            refine lv_iconst (v := 1) S.x S.b d_Ker_await_69 (by decide) ?_
            have hw : pw D A s.heap _ _ [wd_Ker cs hk kr (fun _ => none) kf ka (gKe pq pz tq rq), fm 8 (fPp cs pq PV), fo 13 (fRw cs rq RR RM RW RF RA RC) ip, nA cs (RM ip) 36864 (RC ip), wd_Raw cs hx (RR ip) (fun k => if k = 2 then (RM ip) else if k = 4 then (some ((PV j1).r 1)) else none) f21 a22 (fun _ _ => none), fo 13 (fTx cs tq TR TO TF TA) p0.toNatClampNeg, wd_Txp cs q12 (TR p0.toNatClampNeg) (fun k => if k = 3 then (some hp16) else none) (TF p0.toNatClampNeg) (TA p0.toNatClampNeg) (fun _ _ => none)] := hw.sub [0, 1, 4, 5, 6, 2, 3] rfl rfl
            have hw : pw D A s.heap _ _ [wd_Ker cs hk kr (fun _ => none) kf ka (gKe pq pz tq rq), fm 8 (fPp cs pq PV), fo 13 (fRw cs rq RR RM RW RF RA RC) ip, nA cs (RM ip) 36864 (RC ip), wd_Raw cs hx (RR ip) (fun k => if k = 2 then (RM ip) else if k = 4 then (some ((PV j1).r 1)) else none) f21 a22 (fun _ _ => none), fm 13 (fTx cs tq TR TO TF TA)] := ftx_back (pr := [wd_Ker cs hk kr (fun _ => none) kf ka (gKe pq pz tq rq), fm 8 (fPp cs pq PV), fo 13 (fRw cs rq RR RM RW RF RA RC) ip, nA cs (RM ip) 36864 (RC ip), wd_Raw cs hx (RR ip) (fun k => if k = 2 then (RM ip) else if k = 4 then (some ((PV j1).r 1)) else none) f21 a22 (fun _ _ => none)]) hw hi14 hcu15.1 hto16
            have hw : pw D A s.heap _ _ [wd_Ker cs hk kr (fun _ => none) kf ka (gKe pq pz tq rq), fm 8 (fPp cs pq PV), fm 13 (fTx cs tq TR TO TF TA), fo 13 (fRw cs rq RR RM RW RF RA RC) ip, wd_Raw cs hx (RR ip) (fun k => if k = 2 then (RM ip) else if k = 4 then (some ((PV j1).r 1)) else none) f21 a22 (fun _ _ => none), nA cs (RM ip) 36864 (RC ip)] := hw.sub [0, 1, 5, 2, 4, 3] rfl rfl
            have hw := frw_in0 (pr := [wd_Ker cs hk kr (fun _ => none) kf ka (gKe pq pz tq rq), fm 8 (fPp cs pq PV), fm 13 (fTx cs tq TR TO TF TA)]) hw hip hcu.1 hto1
            obtain ⟨RM31, hu_RM31⟩ : ∃ y : Nat → Option Nat, y = va_up RM ip (RM ip) := ⟨_, rfl⟩
            obtain ⟨RF32, hu_RF32⟩ : ∃ y : Nat → Nat → Int32, y = va_up RF ip f21 := ⟨_, rfl⟩
            obtain ⟨RA33, hu_RA33⟩ : ∃ y : Nat → Nat → Nat → Int32, y = va_up RA ip a22 := ⟨_, rfl⟩
            obtain ⟨RC34, hu_RC34⟩ : ∃ y : Nat → Nat → Int32, y = va_up RC ip (RC ip) := ⟨_, rfl⟩
            have hw : pw D A s.heap _ _ [wd_Ker cs hk kr (fun _ => none) kf ka (gKe pq pz tq rq), fm 8 (fPp cs pq PV), fm 13 (fTx cs tq TR TO TF TA), fm 13 (fRw cs rq RR RM31 RW RF32 RA33 RC34)] := (by rw [hu_RM31, hu_RF32, hu_RA33, hu_RC34]; exact hw)
            have hki : KnI pq PV pz tq rq TO TF TA RW RF32 := (by rw [hu_RF32]; exact hki.upR (show RwN ip f21 from ⟨(show (0 ≤ (f21 7).toInt ∧ (f21 7).toInt ≤ 1600) ∧ (0 ≤ (f21 10).toInt ∧ (f21 10).toInt + (f21 7).toInt ≤ 1600) ∧ ((f21 14).toInt = 0 ∨ (f21 14).toInt = 1) ∧ ((f21 14).toInt = 1 → 1 ≤ (f21 7).toInt) from by omega), (show ((f21 8).toInt) = ((ip : Nat) : Int) from by omega), (show 0 ≤ (f21 13).toInt ∧ (f21 13).toInt ≤ 3 ∧ ((f21 13).toInt = 0 ∨ 3 * ((ip : Nat) : Int) + (f21 13).toInt ≤ 12) from by omega)⟩))
            have hrm : RmI rq RM31 := (by rw [hu_RM31]; exact hrm.up hcu.1)
            have hnd_RM31 := ndS_up 13 RM ip (RM ip) hip; rw [← hu_RM31] at hnd_RM31
            have hz14_RF32 : (RF32 ip 14).toInt = (f21 14).toInt := (by rw [hu_RF32, va_up_s]; try rfl)
            have hw : pw D A s.heap _ _ [wd_Ker cs hk kr (fun _ => none) kf ka (gKe pq pz tq rq), fm 13 (fTx cs tq TR TO TF TA), fm 13 (fRw cs rq RR RM31 RW RF32 RA33 RC34), fm 8 (fPp cs pq PV)] := hw.sub [0, 2, 3, 1] rfl rfl
            exact pg_iret (v := 1) S hr rfl hlk hAe hw (show 0 ≤ (5 * ndS 13 tq + 4 * ndS 13 rq + ndS 13 RM) from by first | exact oz_86e49526c7 | omega) (show 0 ≤ (9804 * ndS 13 tq + 342 * ndS 13 rq + 36864 * ndS 13 RM) from by first | exact oz_fc3b58e969 | omega) (⟨pz, tq, rq, ka, TR, TO, TF, TA, RR, RM31, RW, RF32, RA33, RC34, rfl, (show (1 : Int32) = 0 ∨ (1 : Int32) = 1 from by first | exact Or.inl rfl | exact Or.inr rfl | exact z_or (by omega)), (show CuR pq PV rq RW ip hx from hcu), (show KnI pq PV pz tq rq TO TF TA RW RF32 from hki), (show RoI ka from hro), (show RmI rq RM31 from hrm), (show 0 + (5 * ndS 13 tq + 4 * ndS 13 rq + ndS 13 RM31) ≤ 5 * ndS 13 tq + 4 * ndS 13 rq + ndS 13 RM from by omega), (show 0 + (9804 * ndS 13 tq + 342 * ndS 13 rq + 36864 * ndS 13 RM31) ≤ 9804 * ndS 13 tq + 342 * ndS 13 rq + 36864 * ndS 13 RM from by omega)⟩) d_Ker_await_70
          · have nc18 : ¬ ((TF p0.toNatClampNeg) 18).toInt = (0 : Int) := mt (i_eq (x := ((TF p0.toNatClampNeg) 18)) (y := 0)).mpr c18
            refine lv_iload_n S.x S.b d_Ker_await_47 rfl (lv_at hl 0 rfl) ?_
            refine lv_iconst (v := 1) S.x S.b d_Ker_await_48 (by decide) ?_
            refine lv_icmp_ne (tgt := 64) S.x S.b d_Ker_await_49 (by decide) (fun c35 => ?_) (fun c35 => ?_)
            · have nc35 : ¬ ((TF p0.toNatClampNeg) 18).toInt = (1 : Int) := mt (i_eq (x := ((TF p0.toNatClampNeg) 18)) (y := 1)).mpr c35
              refine lv_iload_n S.x S.b d_Ker_await_64 rfl (lv_at hl 0 rfl) ?_
              refine lv_ineg S.x S.b d_Ker_await_65 ?_
              have lr37 := Int32.le_toInt ((TF p0.toNatClampNeg) 18)
              have ur37 := Int32.toInt_lt ((TF p0.toNatClampNeg) 18)
              refine lv_topi (fun z38 ez38 => ?_)
              have lz38 := Int32.le_toInt z38
              have uz38 := Int32.toInt_lt z38
              have hw : pw D A s.heap _ _ [wd_Ker cs hk kr (fun _ => none) kf ka (gKe pq pz tq rq), fm 8 (fPp cs pq PV), fo 13 (fTx cs tq TR TO TF TA) p0.toNatClampNeg, wd_Txp cs q12 (TR p0.toNatClampNeg) (fun k => if k = 3 then (some hp16) else none) (TF p0.toNatClampNeg) (TA p0.toNatClampNeg) (fun _ _ => none), fm 13 (fRw cs rq RR RM RW RF RA RC)] := hw.sub [0, 2, 3, 4, 1] rfl rfl
              have hw : pw D A s.heap _ _ [wd_Ker cs hk kr (fun _ => none) kf ka (gKe pq pz tq rq), fm 8 (fPp cs pq PV), fo 13 (fTx cs tq TR TO TF TA) p0.toNatClampNeg, wd_Txp cs q12 (TR p0.toNatClampNeg) (fun k => if k = 3 then (some hp16) else none) (TF p0.toNatClampNeg) (TA p0.toNatClampNeg) (fun _ _ => none), fo 13 (fRw cs rq RR RM RW RF RA RC) ip, wd_Raw cs hx (RR ip) (fun k => if k = 2 then (RM ip) else if k = 4 then (some ((PV j1).r 1)) else none) (RF ip) (RA ip) (fun _ _ => none), nA cs (RM ip) 36864 (RC ip)] := frw_out (pr := [wd_Ker cs hk kr (fun _ => none) kf ka (gKe pq pz tq rq), fm 8 (fPp cs pq PV), fo 13 (fTx cs tq TR TO TF TA) p0.toNatClampNeg, wd_Txp cs q12 (TR p0.toNatClampNeg) (fun k => if k = 3 then (some hp16) else none) (TF p0.toNatClampNeg) (TA p0.toNatClampNeg) (fun _ _ => none)]) hw hip hcu.1 hto1
              have hng39 := ndS_ge 13 RM ip hip
              have hrn39 : RwN ip (RF ip) := hki.2.2.1 ip hip _ hcu.1
              have hro39 := hrn39.1
              unfold RwO at hro39
              have hid39 := hrn39.2.1
              have hch39 := hrn39.2.2
              unfold KcI at hch39
              have hw : pw D A s.heap _ _ [wd_Ker cs hk kr (fun _ => none) kf ka (gKe pq pz tq rq), fm 8 (fPp cs pq PV), fo 13 (fTx cs tq TR TO TF TA) p0.toNatClampNeg, wd_Txp cs q12 (TR p0.toNatClampNeg) (fun k => if k = 3 then (some hp16) else none) (TF p0.toNatClampNeg) (TA p0.toNatClampNeg) (fun _ _ => none), fo 13 (fRw cs rq RR RM RW RF RA RC) ip, nA cs (RM ip) 36864 (RC ip), wd_Raw cs hx (RR ip) (fun k => if k = 2 then (RM ip) else if k = 4 then (some ((PV j1).r 1)) else none) (RF ip) (RA ip) (fun _ _ => none)] := hw.sub [0, 1, 2, 3, 4, 6, 5] rfl rfl
              refine px_callv (pr := [wd_Ker cs hk kr (fun _ => none) kf ka (gKe pq pz tq rq), fm 8 (fPp cs pq PV), fo 13 (fTx cs tq TR TO TF TA) p0.toNatClampNeg, wd_Txp cs q12 (TR p0.toNatClampNeg) (fun k => if k = 3 then (some hp16) else none) (TF p0.toNatClampNeg) (TA p0.toNatClampNeg) (fun _ _ => none), fo 13 (fRw cs rq RR RM RW RF RA RC) ip, nA cs (RM ip) 36864 (RC ip)]) (px_runA (As := [.int z38]) (rest := []) S (c_Raw_answer l D cs hx (RR ip) (fun _ _ => none) (RM ip) (some ((PV j1).r 1)) (RF ip) (RA ip) z38  (show 1 ≤ ((RF ip) 7).toInt from by omega) _) hT (pr := [wd_Ker cs hk kr (fun _ => none) kf ka (gKe pq pz tq rq), fm 8 (fPp cs pq PV), fo 13 (fTx cs tq TR TO TF TA) p0.toNatClampNeg, wd_Txp cs q12 (TR p0.toNatClampNeg) (fun k => if k = 3 then (some hp16) else none) (TF p0.toNatClampNeg) (TA p0.toNatClampNeg) (fun _ _ => none), fo 13 (fRw cs rq RR RM RW RF RA RC) ip, nA cs (RM ip) 36864 (RC ip)]) (pcs := [wd_Raw cs hx (RR ip) (fun k => if k = 2 then (RM ip) else if k = 4 then (some ((PV j1).r 1)) else none) (RF ip) (RA ip) (fun _ _ => none)]) hw px_X.tt (C := "HomeSystem$RawProcess") (owner := "HomeSystem$AnyProcess") (x := ⟨"HomeSystem$AnyProcess", "answer", "(I)V"⟩) (px_recv hT hw 6 0 rfl rfl rfl) m8_72 m8_67 m8_69 m8_71 m8_70 m1_34 m8_68n ⟨by decide, by decide⟩ rfl q_Raw_answer ⟨Nat.le_of_ble_eq_true rfl, Nat.le_of_ble_eq_true rfl⟩ hl.1 rfl (Nat.le_of_ble_eq_true rfl) d_Ker_await_66 ⟨show 0 + 0 ≤ (5 * ndS 13 tq + 4 * ndS 13 rq + ndS 13 RM) from (by first | exact oz_9c199dfd7f | omega), show 0 + 0 ≤ (9804 * ndS 13 tq + 342 * ndS 13 rq + 36864 * ndS 13 RM) from (by first | exact oz_54615505fb | omega)⟩) hw hA (fun p42 H locs hp42 hw => ?_)
              obtain ⟨f40, a41, rfl, e44, e45, e46, e47, e48, e49⟩ := hp42
              have e44 : (f40 7).toInt = ((RF ip) 7).toInt - 1 := e44
              have e45 : (f40 8).toInt = ((RF ip) 8).toInt := e45
              have e46 : (f40 10).toInt = ((RF ip) 10).toInt := e46
              have e47 : (f40 13).toInt = ((RF ip) 13).toInt := e47
              have e48 : (f40 14).toInt = 0 := e48
              have e49 : (f40 11).toInt = ((RF ip) 11).toInt := e49
              have hw : pw D A s.heap H locs [wd_Ker cs hk kr (fun _ => none) kf ka (gKe pq pz tq rq), fm 8 (fPp cs pq PV), fo 13 (fTx cs tq TR TO TF TA) p0.toNatClampNeg, wd_Txp cs q12 (TR p0.toNatClampNeg) (fun k => if k = 3 then (some hp16) else none) (TF p0.toNatClampNeg) (TA p0.toNatClampNeg) (fun _ _ => none), fo 13 (fRw cs rq RR RM RW RF RA RC) ip, nA cs (RM ip) 36864 (RC ip), wd_Raw cs hx (RR ip) (fun k => if k = 2 then (RM ip) else if k = 4 then (some ((PV j1).r 1)) else none) f40 a41 (fun _ _ => none)] := hw
              refine lv_iconst (v := 1) S.x S.b d_Ker_await_69 (by decide) ?_
              have hw : pw D A s.heap _ _ [wd_Ker cs hk kr (fun _ => none) kf ka (gKe pq pz tq rq), fm 8 (fPp cs pq PV), fo 13 (fRw cs rq RR RM RW RF RA RC) ip, nA cs (RM ip) 36864 (RC ip), wd_Raw cs hx (RR ip) (fun k => if k = 2 then (RM ip) else if k = 4 then (some ((PV j1).r 1)) else none) f40 a41 (fun _ _ => none), fo 13 (fTx cs tq TR TO TF TA) p0.toNatClampNeg, wd_Txp cs q12 (TR p0.toNatClampNeg) (fun k => if k = 3 then (some hp16) else none) (TF p0.toNatClampNeg) (TA p0.toNatClampNeg) (fun _ _ => none)] := hw.sub [0, 1, 4, 5, 6, 2, 3] rfl rfl
              have hw : pw D A s.heap _ _ [wd_Ker cs hk kr (fun _ => none) kf ka (gKe pq pz tq rq), fm 8 (fPp cs pq PV), fo 13 (fRw cs rq RR RM RW RF RA RC) ip, nA cs (RM ip) 36864 (RC ip), wd_Raw cs hx (RR ip) (fun k => if k = 2 then (RM ip) else if k = 4 then (some ((PV j1).r 1)) else none) f40 a41 (fun _ _ => none), fm 13 (fTx cs tq TR TO TF TA)] := ftx_back (pr := [wd_Ker cs hk kr (fun _ => none) kf ka (gKe pq pz tq rq), fm 8 (fPp cs pq PV), fo 13 (fRw cs rq RR RM RW RF RA RC) ip, nA cs (RM ip) 36864 (RC ip), wd_Raw cs hx (RR ip) (fun k => if k = 2 then (RM ip) else if k = 4 then (some ((PV j1).r 1)) else none) f40 a41 (fun _ _ => none)]) hw hi14 hcu15.1 hto16
              have hw : pw D A s.heap _ _ [wd_Ker cs hk kr (fun _ => none) kf ka (gKe pq pz tq rq), fm 8 (fPp cs pq PV), fm 13 (fTx cs tq TR TO TF TA), fo 13 (fRw cs rq RR RM RW RF RA RC) ip, wd_Raw cs hx (RR ip) (fun k => if k = 2 then (RM ip) else if k = 4 then (some ((PV j1).r 1)) else none) f40 a41 (fun _ _ => none), nA cs (RM ip) 36864 (RC ip)] := hw.sub [0, 1, 5, 2, 4, 3] rfl rfl
              have hw := frw_in0 (pr := [wd_Ker cs hk kr (fun _ => none) kf ka (gKe pq pz tq rq), fm 8 (fPp cs pq PV), fm 13 (fTx cs tq TR TO TF TA)]) hw hip hcu.1 hto1
              obtain ⟨RM50, hu_RM50⟩ : ∃ y : Nat → Option Nat, y = va_up RM ip (RM ip) := ⟨_, rfl⟩
              obtain ⟨RF51, hu_RF51⟩ : ∃ y : Nat → Nat → Int32, y = va_up RF ip f40 := ⟨_, rfl⟩
              obtain ⟨RA52, hu_RA52⟩ : ∃ y : Nat → Nat → Nat → Int32, y = va_up RA ip a41 := ⟨_, rfl⟩
              obtain ⟨RC53, hu_RC53⟩ : ∃ y : Nat → Nat → Int32, y = va_up RC ip (RC ip) := ⟨_, rfl⟩
              have hw : pw D A s.heap _ _ [wd_Ker cs hk kr (fun _ => none) kf ka (gKe pq pz tq rq), fm 8 (fPp cs pq PV), fm 13 (fTx cs tq TR TO TF TA), fm 13 (fRw cs rq RR RM50 RW RF51 RA52 RC53)] := (by rw [hu_RM50, hu_RF51, hu_RA52, hu_RC53]; exact hw)
              have hki : KnI pq PV pz tq rq TO TF TA RW RF51 := (by rw [hu_RF51]; exact hki.upR (show RwN ip f40 from ⟨(show (0 ≤ (f40 7).toInt ∧ (f40 7).toInt ≤ 1600) ∧ (0 ≤ (f40 10).toInt ∧ (f40 10).toInt + (f40 7).toInt ≤ 1600) ∧ ((f40 14).toInt = 0 ∨ (f40 14).toInt = 1) ∧ ((f40 14).toInt = 1 → 1 ≤ (f40 7).toInt) from by omega), (show ((f40 8).toInt) = ((ip : Nat) : Int) from by omega), (show 0 ≤ (f40 13).toInt ∧ (f40 13).toInt ≤ 3 ∧ ((f40 13).toInt = 0 ∨ 3 * ((ip : Nat) : Int) + (f40 13).toInt ≤ 12) from by omega)⟩))
              have hrm : RmI rq RM50 := (by rw [hu_RM50]; exact hrm.up hcu.1)
              have hnd_RM50 := ndS_up 13 RM ip (RM ip) hip; rw [← hu_RM50] at hnd_RM50
              have hz14_RF51 : (RF51 ip 14).toInt = (f40 14).toInt := (by rw [hu_RF51, va_up_s]; try rfl)
              have hw : pw D A s.heap _ _ [wd_Ker cs hk kr (fun _ => none) kf ka (gKe pq pz tq rq), fm 13 (fTx cs tq TR TO TF TA), fm 13 (fRw cs rq RR RM50 RW RF51 RA52 RC53), fm 8 (fPp cs pq PV)] := hw.sub [0, 2, 3, 1] rfl rfl
              exact pg_iret (v := 1) S hr rfl hlk hAe hw (show 0 ≤ (5 * ndS 13 tq + 4 * ndS 13 rq + ndS 13 RM) from by first | exact oz_86e49526c7 | omega) (show 0 ≤ (9804 * ndS 13 tq + 342 * ndS 13 rq + 36864 * ndS 13 RM) from by first | exact oz_fc3b58e969 | omega) (⟨pz, tq, rq, ka, TR, TO, TF, TA, RR, RM50, RW, RF51, RA52, RC53, rfl, (show (1 : Int32) = 0 ∨ (1 : Int32) = 1 from by first | exact Or.inl rfl | exact Or.inr rfl | exact z_or (by omega)), (show CuR pq PV rq RW ip hx from hcu), (show KnI pq PV pz tq rq TO TF TA RW RF51 from hki), (show RoI ka from hro), (show RmI rq RM50 from hrm), (show 0 + (5 * ndS 13 tq + 4 * ndS 13 rq + ndS 13 RM50) ≤ 5 * ndS 13 tq + 4 * ndS 13 rq + ndS 13 RM from by omega), (show 0 + (9804 * ndS 13 tq + 342 * ndS 13 rq + 36864 * ndS 13 RM50) ≤ 9804 * ndS 13 tq + 342 * ndS 13 rq + 36864 * ndS 13 RM from by omega)⟩) d_Ker_await_70
            · have nc35 : ((TF p0.toNatClampNeg) 18).toInt = (1 : Int) := (i_eq (x := ((TF p0.toNatClampNeg) 18)) (y := 1)).mp c35
              refine lv_aload_n S.x S.b d_Ker_await_52 rfl (lv_at hl 1 rfl) ?_
              refine px_get S k_Ker hT hw 0 0 2 (v := .ref (kr 2)) rfl rfl rfl (by decide) m2_222 d_Ker_await_53 ?_
              refine lv_iload_n S.x S.b d_Ker_await_56 rfl (lv_at hl 3 rfl) ?_
              refine px_aaldS S hT hw 0 3 6 (n := 13) (f := pz) rfl rfl rfl (x := p0) (vp_in_iff.mpr (by first | exact oz_3859d57d28 hc14 hi14 | (constructor <;> omega))) (sk := q12) hr14 d_Ker_await_57 ?_
              refine px_get S k_Txp hT hw 4 0 19 (v := .int ((TF p0.toNatClampNeg) 19)) rfl rfl rfl (by decide) m6_146 d_Ker_await_58 ?_
              refine lv_goto (tgt := 66) S.x S.b d_Ker_await_61 (by decide) ?_
              have hw : pw D A s.heap _ _ [wd_Ker cs hk kr (fun _ => none) kf ka (gKe pq pz tq rq), fm 8 (fPp cs pq PV), fo 13 (fTx cs tq TR TO TF TA) p0.toNatClampNeg, wd_Txp cs q12 (TR p0.toNatClampNeg) (fun k => if k = 3 then (some hp16) else none) (TF p0.toNatClampNeg) (TA p0.toNatClampNeg) (fun _ _ => none), fm 13 (fRw cs rq RR RM RW RF RA RC)] := hw.sub [0, 2, 3, 4, 1] rfl rfl
              have hw : pw D A s.heap _ _ [wd_Ker cs hk kr (fun _ => none) kf ka (gKe pq pz tq rq), fm 8 (fPp cs pq PV), fo 13 (fTx cs tq TR TO TF TA) p0.toNatClampNeg, wd_Txp cs q12 (TR p0.toNatClampNeg) (fun k => if k = 3 then (some hp16) else none) (TF p0.toNatClampNeg) (TA p0.toNatClampNeg) (fun _ _ => none), fo 13 (fRw cs rq RR RM RW RF RA RC) ip, wd_Raw cs hx (RR ip) (fun k => if k = 2 then (RM ip) else if k = 4 then (some ((PV j1).r 1)) else none) (RF ip) (RA ip) (fun _ _ => none), nA cs (RM ip) 36864 (RC ip)] := frw_out (pr := [wd_Ker cs hk kr (fun _ => none) kf ka (gKe pq pz tq rq), fm 8 (fPp cs pq PV), fo 13 (fTx cs tq TR TO TF TA) p0.toNatClampNeg, wd_Txp cs q12 (TR p0.toNatClampNeg) (fun k => if k = 3 then (some hp16) else none) (TF p0.toNatClampNeg) (TA p0.toNatClampNeg) (fun _ _ => none)]) hw hip hcu.1 hto1
              have hng54 := ndS_ge 13 RM ip hip
              have hrn54 : RwN ip (RF ip) := hki.2.2.1 ip hip _ hcu.1
              have hro54 := hrn54.1
              unfold RwO at hro54
              have hid54 := hrn54.2.1
              have hch54 := hrn54.2.2
              unfold KcI at hch54
              have hw : pw D A s.heap _ _ [wd_Ker cs hk kr (fun _ => none) kf ka (gKe pq pz tq rq), fm 8 (fPp cs pq PV), fo 13 (fTx cs tq TR TO TF TA) p0.toNatClampNeg, wd_Txp cs q12 (TR p0.toNatClampNeg) (fun k => if k = 3 then (some hp16) else none) (TF p0.toNatClampNeg) (TA p0.toNatClampNeg) (fun _ _ => none), fo 13 (fRw cs rq RR RM RW RF RA RC) ip, nA cs (RM ip) 36864 (RC ip), wd_Raw cs hx (RR ip) (fun k => if k = 2 then (RM ip) else if k = 4 then (some ((PV j1).r 1)) else none) (RF ip) (RA ip) (fun _ _ => none)] := hw.sub [0, 1, 2, 3, 4, 6, 5] rfl rfl
              refine px_callv (pr := [wd_Ker cs hk kr (fun _ => none) kf ka (gKe pq pz tq rq), fm 8 (fPp cs pq PV), fo 13 (fTx cs tq TR TO TF TA) p0.toNatClampNeg, wd_Txp cs q12 (TR p0.toNatClampNeg) (fun k => if k = 3 then (some hp16) else none) (TF p0.toNatClampNeg) (TA p0.toNatClampNeg) (fun _ _ => none), fo 13 (fRw cs rq RR RM RW RF RA RC) ip, nA cs (RM ip) 36864 (RC ip)]) (px_runA (As := [.int ((TF p0.toNatClampNeg) 19)]) (rest := []) S (c_Raw_answer l D cs hx (RR ip) (fun _ _ => none) (RM ip) (some ((PV j1).r 1)) (RF ip) (RA ip) ((TF p0.toNatClampNeg) 19)  (show 1 ≤ ((RF ip) 7).toInt from by omega) _) hT (pr := [wd_Ker cs hk kr (fun _ => none) kf ka (gKe pq pz tq rq), fm 8 (fPp cs pq PV), fo 13 (fTx cs tq TR TO TF TA) p0.toNatClampNeg, wd_Txp cs q12 (TR p0.toNatClampNeg) (fun k => if k = 3 then (some hp16) else none) (TF p0.toNatClampNeg) (TA p0.toNatClampNeg) (fun _ _ => none), fo 13 (fRw cs rq RR RM RW RF RA RC) ip, nA cs (RM ip) 36864 (RC ip)]) (pcs := [wd_Raw cs hx (RR ip) (fun k => if k = 2 then (RM ip) else if k = 4 then (some ((PV j1).r 1)) else none) (RF ip) (RA ip) (fun _ _ => none)]) hw px_X.tt (C := "HomeSystem$RawProcess") (owner := "HomeSystem$AnyProcess") (x := ⟨"HomeSystem$AnyProcess", "answer", "(I)V"⟩) (px_recv hT hw 6 0 rfl rfl rfl) m8_72 m8_67 m8_69 m8_71 m8_70 m1_34 m8_68n ⟨by decide, by decide⟩ rfl q_Raw_answer ⟨Nat.le_of_ble_eq_true rfl, Nat.le_of_ble_eq_true rfl⟩ hl.1 rfl (Nat.le_of_ble_eq_true rfl) d_Ker_await_66 ⟨show 0 + 0 ≤ (5 * ndS 13 tq + 4 * ndS 13 rq + ndS 13 RM) from (by first | exact oz_9c199dfd7f | omega), show 0 + 0 ≤ (9804 * ndS 13 tq + 342 * ndS 13 rq + 36864 * ndS 13 RM) from (by first | exact oz_54615505fb | omega)⟩) hw hA (fun p57 H locs hp57 hw => ?_)
              obtain ⟨f55, a56, rfl, e59, e60, e61, e62, e63, e64⟩ := hp57
              have e59 : (f55 7).toInt = ((RF ip) 7).toInt - 1 := e59
              have e60 : (f55 8).toInt = ((RF ip) 8).toInt := e60
              have e61 : (f55 10).toInt = ((RF ip) 10).toInt := e61
              have e62 : (f55 13).toInt = ((RF ip) 13).toInt := e62
              have e63 : (f55 14).toInt = 0 := e63
              have e64 : (f55 11).toInt = ((RF ip) 11).toInt := e64
              have hw : pw D A s.heap H locs [wd_Ker cs hk kr (fun _ => none) kf ka (gKe pq pz tq rq), fm 8 (fPp cs pq PV), fo 13 (fTx cs tq TR TO TF TA) p0.toNatClampNeg, wd_Txp cs q12 (TR p0.toNatClampNeg) (fun k => if k = 3 then (some hp16) else none) (TF p0.toNatClampNeg) (TA p0.toNatClampNeg) (fun _ _ => none), fo 13 (fRw cs rq RR RM RW RF RA RC) ip, nA cs (RM ip) 36864 (RC ip), wd_Raw cs hx (RR ip) (fun k => if k = 2 then (RM ip) else if k = 4 then (some ((PV j1).r 1)) else none) f55 a56 (fun _ _ => none)] := hw
              refine lv_iconst (v := 1) S.x S.b d_Ker_await_69 (by decide) ?_
              have hw : pw D A s.heap _ _ [wd_Ker cs hk kr (fun _ => none) kf ka (gKe pq pz tq rq), fm 8 (fPp cs pq PV), fo 13 (fRw cs rq RR RM RW RF RA RC) ip, nA cs (RM ip) 36864 (RC ip), wd_Raw cs hx (RR ip) (fun k => if k = 2 then (RM ip) else if k = 4 then (some ((PV j1).r 1)) else none) f55 a56 (fun _ _ => none), fo 13 (fTx cs tq TR TO TF TA) p0.toNatClampNeg, wd_Txp cs q12 (TR p0.toNatClampNeg) (fun k => if k = 3 then (some hp16) else none) (TF p0.toNatClampNeg) (TA p0.toNatClampNeg) (fun _ _ => none)] := hw.sub [0, 1, 4, 5, 6, 2, 3] rfl rfl
              have hw : pw D A s.heap _ _ [wd_Ker cs hk kr (fun _ => none) kf ka (gKe pq pz tq rq), fm 8 (fPp cs pq PV), fo 13 (fRw cs rq RR RM RW RF RA RC) ip, nA cs (RM ip) 36864 (RC ip), wd_Raw cs hx (RR ip) (fun k => if k = 2 then (RM ip) else if k = 4 then (some ((PV j1).r 1)) else none) f55 a56 (fun _ _ => none), fm 13 (fTx cs tq TR TO TF TA)] := ftx_back (pr := [wd_Ker cs hk kr (fun _ => none) kf ka (gKe pq pz tq rq), fm 8 (fPp cs pq PV), fo 13 (fRw cs rq RR RM RW RF RA RC) ip, nA cs (RM ip) 36864 (RC ip), wd_Raw cs hx (RR ip) (fun k => if k = 2 then (RM ip) else if k = 4 then (some ((PV j1).r 1)) else none) f55 a56 (fun _ _ => none)]) hw hi14 hcu15.1 hto16
              have hw : pw D A s.heap _ _ [wd_Ker cs hk kr (fun _ => none) kf ka (gKe pq pz tq rq), fm 8 (fPp cs pq PV), fm 13 (fTx cs tq TR TO TF TA), fo 13 (fRw cs rq RR RM RW RF RA RC) ip, wd_Raw cs hx (RR ip) (fun k => if k = 2 then (RM ip) else if k = 4 then (some ((PV j1).r 1)) else none) f55 a56 (fun _ _ => none), nA cs (RM ip) 36864 (RC ip)] := hw.sub [0, 1, 5, 2, 4, 3] rfl rfl
              have hw := frw_in0 (pr := [wd_Ker cs hk kr (fun _ => none) kf ka (gKe pq pz tq rq), fm 8 (fPp cs pq PV), fm 13 (fTx cs tq TR TO TF TA)]) hw hip hcu.1 hto1
              obtain ⟨RM65, hu_RM65⟩ : ∃ y : Nat → Option Nat, y = va_up RM ip (RM ip) := ⟨_, rfl⟩
              obtain ⟨RF66, hu_RF66⟩ : ∃ y : Nat → Nat → Int32, y = va_up RF ip f55 := ⟨_, rfl⟩
              obtain ⟨RA67, hu_RA67⟩ : ∃ y : Nat → Nat → Nat → Int32, y = va_up RA ip a56 := ⟨_, rfl⟩
              obtain ⟨RC68, hu_RC68⟩ : ∃ y : Nat → Nat → Int32, y = va_up RC ip (RC ip) := ⟨_, rfl⟩
              have hw : pw D A s.heap _ _ [wd_Ker cs hk kr (fun _ => none) kf ka (gKe pq pz tq rq), fm 8 (fPp cs pq PV), fm 13 (fTx cs tq TR TO TF TA), fm 13 (fRw cs rq RR RM65 RW RF66 RA67 RC68)] := (by rw [hu_RM65, hu_RF66, hu_RA67, hu_RC68]; exact hw)
              have hki : KnI pq PV pz tq rq TO TF TA RW RF66 := (by rw [hu_RF66]; exact hki.upR (show RwN ip f55 from ⟨(show (0 ≤ (f55 7).toInt ∧ (f55 7).toInt ≤ 1600) ∧ (0 ≤ (f55 10).toInt ∧ (f55 10).toInt + (f55 7).toInt ≤ 1600) ∧ ((f55 14).toInt = 0 ∨ (f55 14).toInt = 1) ∧ ((f55 14).toInt = 1 → 1 ≤ (f55 7).toInt) from by omega), (show ((f55 8).toInt) = ((ip : Nat) : Int) from by omega), (show 0 ≤ (f55 13).toInt ∧ (f55 13).toInt ≤ 3 ∧ ((f55 13).toInt = 0 ∨ 3 * ((ip : Nat) : Int) + (f55 13).toInt ≤ 12) from by omega)⟩))
              have hrm : RmI rq RM65 := (by rw [hu_RM65]; exact hrm.up hcu.1)
              have hnd_RM65 := ndS_up 13 RM ip (RM ip) hip; rw [← hu_RM65] at hnd_RM65
              have hz14_RF66 : (RF66 ip 14).toInt = (f55 14).toInt := (by rw [hu_RF66, va_up_s]; try rfl)
              have hw : pw D A s.heap _ _ [wd_Ker cs hk kr (fun _ => none) kf ka (gKe pq pz tq rq), fm 13 (fTx cs tq TR TO TF TA), fm 13 (fRw cs rq RR RM65 RW RF66 RA67 RC68), fm 8 (fPp cs pq PV)] := hw.sub [0, 2, 3, 1] rfl rfl
              exact pg_iret (v := 1) S hr rfl hlk hAe hw (show 0 ≤ (5 * ndS 13 tq + 4 * ndS 13 rq + ndS 13 RM) from by first | exact oz_86e49526c7 | omega) (show 0 ≤ (9804 * ndS 13 tq + 342 * ndS 13 rq + 36864 * ndS 13 RM) from by first | exact oz_fc3b58e969 | omega) (⟨pz, tq, rq, ka, TR, TO, TF, TA, RR, RM65, RW, RF66, RA67, RC68, rfl, (show (1 : Int32) = 0 ∨ (1 : Int32) = 1 from by first | exact Or.inl rfl | exact Or.inr rfl | exact z_or (by omega)), (show CuR pq PV rq RW ip hx from hcu), (show KnI pq PV pz tq rq TO TF TA RW RF66 from hki), (show RoI ka from hro), (show RmI rq RM65 from hrm), (show 0 + (5 * ndS 13 tq + 4 * ndS 13 rq + ndS 13 RM65) ≤ 5 * ndS 13 tq + 4 * ndS 13 rq + ndS 13 RM from by omega), (show 0 + (9804 * ndS 13 tq + 342 * ndS 13 rq + 36864 * ndS 13 RM65) ≤ 9804 * ndS 13 tq + 342 * ndS 13 rq + 36864 * ndS 13 RM from by omega)⟩) d_Ker_await_70
        ·
          cases (hr14.symm.trans e9)
          obtain ⟨j69, hp69, hj69, hjq69, hto69⟩ := hcu15.2
          have hw : pw D A s.heap _ _ [wd_Ker cs hk kr (fun _ => none) kf ka (gKe pq pz tq rq), fm 13 (fTx cs tq TR TO TF TA), fm 8 (fPp cs pq PV), fm 13 (fRw cs rq RR RM RW RF RA RC)] := hw.sub [0, 1, 3, 2] rfl rfl
          have hw : pw D A s.heap _ _ [wd_Ker cs hk kr (fun _ => none) kf ka (gKe pq pz tq rq), fm 13 (fTx cs tq TR TO TF TA), fm 8 (fPp cs pq PV), fo 13 (fRw cs rq RR RM RW RF RA RC) p0.toNatClampNeg, wd_Raw cs q12 (RR p0.toNatClampNeg) (fun k => if k = 2 then (RM p0.toNatClampNeg) else if k = 4 then (some ((PV j69).r 1)) else none) (RF p0.toNatClampNeg) (RA p0.toNatClampNeg) (fun _ _ => none), nA cs (RM p0.toNatClampNeg) 36864 (RC p0.toNatClampNeg)] := frw_out (pr := [wd_Ker cs hk kr (fun _ => none) kf ka (gKe pq pz tq rq), fm 13 (fTx cs tq TR TO TF TA), fm 8 (fPp cs pq PV)]) hw hi14 hcu15.1 hto69
          have hng70 := ndS_ge 13 RM p0.toNatClampNeg hi14
          have hrn70 : RwN p0.toNatClampNeg (RF p0.toNatClampNeg) := hki.2.2.1 p0.toNatClampNeg hi14 _ hcu15.1
          have hro70 := hrn70.1
          unfold RwO at hro70
          have hid70 := hrn70.2.1
          have hch70 := hrn70.2.2
          unfold KcI at hch70
          refine px_get S k_Raw hT hw 4 0 11 (v := .int ((RF p0.toNatClampNeg) 11)) rfl rfl rfl (by decide) m6_139 d_Ker_await_38 ?_
          refine lv_istore_n (lv' := [(3, .int ((RF p0.toNatClampNeg) 11)), (0, .ref hk), (1, .ref hx), (2, .int p0)]) S.x S.b d_Ker_await_41 rfl hl (by decide) rfl (fun ls hl => ?_)
          refine lv_aload_n S.x S.b d_Ker_await_42 rfl (lv_at hl 2 rfl) ?_
          refine lv_iload_n S.x S.b d_Ker_await_43 rfl (lv_at hl 0 rfl) ?_
          refine lv_if_eq (tgt := 52) S.x S.b d_Ker_await_44 (by decide) (fun c71 => ?_) (fun c71 => ?_)
          · have nc71 : ((RF p0.toNatClampNeg) 11).toInt = (0 : Int) := (i_eq (x := ((RF p0.toNatClampNeg) 11)) (y := 0)).mp c71
            refine lv_aload_n S.x S.b d_Ker_await_52 rfl (lv_at hl 1 rfl) ?_
            refine px_get S k_Ker hT hw 0 0 2 (v := .ref (kr 2)) rfl rfl rfl (by decide) m2_222 d_Ker_await_53 ?_
            refine lv_iload_n S.x S.b d_Ker_await_56 rfl (lv_at hl 3 rfl) ?_
            refine px_aaldS S hT hw 0 3 6 (n := 13) (f := pz) rfl rfl rfl (x := p0) (vp_in_iff.mpr (by first | exact oz_3859d57d28 hc14 hi14 | (constructor <;> omega))) (sk := q12) hr14 d_Ker_await_57 ?_
            refine px_get S k_Raw hT hw 4 0 12 (v := .int ((RF p0.toNatClampNeg) 12)) rfl rfl rfl (by decide) m6_146 d_Ker_await_58 ?_
            refine lv_goto (tgt := 66) S.x S.b d_Ker_await_61 (by decide) ?_
            have hw : pw D A s.heap _ _ [wd_Ker cs hk kr (fun _ => none) kf ka (gKe pq pz tq rq), fm 13 (fTx cs tq TR TO TF TA), fm 8 (fPp cs pq PV), fm 13 (fRw cs rq RR RM RW RF RA RC)] := frw_back (pr := [wd_Ker cs hk kr (fun _ => none) kf ka (gKe pq pz tq rq), fm 13 (fTx cs tq TR TO TF TA), fm 8 (fPp cs pq PV)]) hw hi14 hcu15.1 hto69
            have hw : pw D A s.heap _ _ [wd_Ker cs hk kr (fun _ => none) kf ka (gKe pq pz tq rq), fm 13 (fTx cs tq TR TO TF TA), fm 8 (fPp cs pq PV), fo 13 (fRw cs rq RR RM RW RF RA RC) ip, wd_Raw cs hx (RR ip) (fun k => if k = 2 then (RM ip) else if k = 4 then (some ((PV j1).r 1)) else none) (RF ip) (RA ip) (fun _ _ => none), nA cs (RM ip) 36864 (RC ip)] := frw_out (pr := [wd_Ker cs hk kr (fun _ => none) kf ka (gKe pq pz tq rq), fm 13 (fTx cs tq TR TO TF TA), fm 8 (fPp cs pq PV)]) hw hip hcu.1 hto1
            have hng73 := ndS_ge 13 RM ip hip
            have hrn73 : RwN ip (RF ip) := hki.2.2.1 ip hip _ hcu.1
            have hro73 := hrn73.1
            unfold RwO at hro73
            have hid73 := hrn73.2.1
            have hch73 := hrn73.2.2
            unfold KcI at hch73
            have hw : pw D A s.heap _ _ [wd_Ker cs hk kr (fun _ => none) kf ka (gKe pq pz tq rq), fm 13 (fTx cs tq TR TO TF TA), fm 8 (fPp cs pq PV), fo 13 (fRw cs rq RR RM RW RF RA RC) ip, nA cs (RM ip) 36864 (RC ip), wd_Raw cs hx (RR ip) (fun k => if k = 2 then (RM ip) else if k = 4 then (some ((PV j1).r 1)) else none) (RF ip) (RA ip) (fun _ _ => none)] := hw.sub [0, 1, 2, 3, 5, 4] rfl rfl
            refine px_callv (pr := [wd_Ker cs hk kr (fun _ => none) kf ka (gKe pq pz tq rq), fm 13 (fTx cs tq TR TO TF TA), fm 8 (fPp cs pq PV), fo 13 (fRw cs rq RR RM RW RF RA RC) ip, nA cs (RM ip) 36864 (RC ip)]) (px_runA (As := [.int ((RF p0.toNatClampNeg) 12)]) (rest := []) S (c_Raw_answer l D cs hx (RR ip) (fun _ _ => none) (RM ip) (some ((PV j1).r 1)) (RF ip) (RA ip) ((RF p0.toNatClampNeg) 12)  (show 1 ≤ ((RF ip) 7).toInt from by omega) _) hT (pr := [wd_Ker cs hk kr (fun _ => none) kf ka (gKe pq pz tq rq), fm 13 (fTx cs tq TR TO TF TA), fm 8 (fPp cs pq PV), fo 13 (fRw cs rq RR RM RW RF RA RC) ip, nA cs (RM ip) 36864 (RC ip)]) (pcs := [wd_Raw cs hx (RR ip) (fun k => if k = 2 then (RM ip) else if k = 4 then (some ((PV j1).r 1)) else none) (RF ip) (RA ip) (fun _ _ => none)]) hw px_X.tt (C := "HomeSystem$RawProcess") (owner := "HomeSystem$AnyProcess") (x := ⟨"HomeSystem$AnyProcess", "answer", "(I)V"⟩) (px_recv hT hw 5 0 rfl rfl rfl) m8_72 m8_67 m8_69 m8_71 m8_70 m1_34 m8_68n ⟨by decide, by decide⟩ rfl q_Raw_answer ⟨Nat.le_of_ble_eq_true rfl, Nat.le_of_ble_eq_true rfl⟩ hl.1 rfl (Nat.le_of_ble_eq_true rfl) d_Ker_await_66 ⟨show 0 + 0 ≤ (5 * ndS 13 tq + 4 * ndS 13 rq + ndS 13 RM) from (by first | exact oz_9c199dfd7f | omega), show 0 + 0 ≤ (9804 * ndS 13 tq + 342 * ndS 13 rq + 36864 * ndS 13 RM) from (by first | exact oz_54615505fb | omega)⟩) hw hA (fun p76 H locs hp76 hw => ?_)
            obtain ⟨f74, a75, rfl, e78, e79, e80, e81, e82, e83⟩ := hp76
            have e78 : (f74 7).toInt = ((RF ip) 7).toInt - 1 := e78
            have e79 : (f74 8).toInt = ((RF ip) 8).toInt := e79
            have e80 : (f74 10).toInt = ((RF ip) 10).toInt := e80
            have e81 : (f74 13).toInt = ((RF ip) 13).toInt := e81
            have e82 : (f74 14).toInt = 0 := e82
            have e83 : (f74 11).toInt = ((RF ip) 11).toInt := e83
            have hw : pw D A s.heap H locs [wd_Ker cs hk kr (fun _ => none) kf ka (gKe pq pz tq rq), fm 13 (fTx cs tq TR TO TF TA), fm 8 (fPp cs pq PV), fo 13 (fRw cs rq RR RM RW RF RA RC) ip, nA cs (RM ip) 36864 (RC ip), wd_Raw cs hx (RR ip) (fun k => if k = 2 then (RM ip) else if k = 4 then (some ((PV j1).r 1)) else none) f74 a75 (fun _ _ => none)] := hw
            refine lv_iconst (v := 1) S.x S.b d_Ker_await_69 (by decide) ?_
            have hw : pw D A s.heap _ _ [wd_Ker cs hk kr (fun _ => none) kf ka (gKe pq pz tq rq), fm 13 (fTx cs tq TR TO TF TA), fm 8 (fPp cs pq PV), fo 13 (fRw cs rq RR RM RW RF RA RC) ip, wd_Raw cs hx (RR ip) (fun k => if k = 2 then (RM ip) else if k = 4 then (some ((PV j1).r 1)) else none) f74 a75 (fun _ _ => none), nA cs (RM ip) 36864 (RC ip)] := hw.sub [0, 1, 2, 3, 5, 4] rfl rfl
            have hw := frw_in0 (pr := [wd_Ker cs hk kr (fun _ => none) kf ka (gKe pq pz tq rq), fm 13 (fTx cs tq TR TO TF TA), fm 8 (fPp cs pq PV)]) hw hip hcu.1 hto1
            obtain ⟨RM84, hu_RM84⟩ : ∃ y : Nat → Option Nat, y = va_up RM ip (RM ip) := ⟨_, rfl⟩
            obtain ⟨RF85, hu_RF85⟩ : ∃ y : Nat → Nat → Int32, y = va_up RF ip f74 := ⟨_, rfl⟩
            obtain ⟨RA86, hu_RA86⟩ : ∃ y : Nat → Nat → Nat → Int32, y = va_up RA ip a75 := ⟨_, rfl⟩
            obtain ⟨RC87, hu_RC87⟩ : ∃ y : Nat → Nat → Int32, y = va_up RC ip (RC ip) := ⟨_, rfl⟩
            have hw : pw D A s.heap _ _ [wd_Ker cs hk kr (fun _ => none) kf ka (gKe pq pz tq rq), fm 13 (fTx cs tq TR TO TF TA), fm 8 (fPp cs pq PV), fm 13 (fRw cs rq RR RM84 RW RF85 RA86 RC87)] := (by rw [hu_RM84, hu_RF85, hu_RA86, hu_RC87]; exact hw)
            have hki : KnI pq PV pz tq rq TO TF TA RW RF85 := (by rw [hu_RF85]; exact hki.upR (show RwN ip f74 from ⟨(show (0 ≤ (f74 7).toInt ∧ (f74 7).toInt ≤ 1600) ∧ (0 ≤ (f74 10).toInt ∧ (f74 10).toInt + (f74 7).toInt ≤ 1600) ∧ ((f74 14).toInt = 0 ∨ (f74 14).toInt = 1) ∧ ((f74 14).toInt = 1 → 1 ≤ (f74 7).toInt) from by omega), (show ((f74 8).toInt) = ((ip : Nat) : Int) from by omega), (show 0 ≤ (f74 13).toInt ∧ (f74 13).toInt ≤ 3 ∧ ((f74 13).toInt = 0 ∨ 3 * ((ip : Nat) : Int) + (f74 13).toInt ≤ 12) from by omega)⟩))
            have hrm : RmI rq RM84 := (by rw [hu_RM84]; exact hrm.up hcu.1)
            have hnd_RM84 := ndS_up 13 RM ip (RM ip) hip; rw [← hu_RM84] at hnd_RM84
            have hz14_RF85 : (RF85 ip 14).toInt = (f74 14).toInt := (by rw [hu_RF85, va_up_s]; try rfl)
            have hw : pw D A s.heap _ _ [wd_Ker cs hk kr (fun _ => none) kf ka (gKe pq pz tq rq), fm 13 (fTx cs tq TR TO TF TA), fm 13 (fRw cs rq RR RM84 RW RF85 RA86 RC87), fm 8 (fPp cs pq PV)] := hw.sub [0, 1, 3, 2] rfl rfl
            exact pg_iret (v := 1) S hr rfl hlk hAe hw (show 0 ≤ (5 * ndS 13 tq + 4 * ndS 13 rq + ndS 13 RM) from by first | exact oz_86e49526c7 | omega) (show 0 ≤ (9804 * ndS 13 tq + 342 * ndS 13 rq + 36864 * ndS 13 RM) from by first | exact oz_fc3b58e969 | omega) (⟨pz, tq, rq, ka, TR, TO, TF, TA, RR, RM84, RW, RF85, RA86, RC87, rfl, (show (1 : Int32) = 0 ∨ (1 : Int32) = 1 from by first | exact Or.inl rfl | exact Or.inr rfl | exact z_or (by omega)), (show CuR pq PV rq RW ip hx from hcu), (show KnI pq PV pz tq rq TO TF TA RW RF85 from hki), (show RoI ka from hro), (show RmI rq RM84 from hrm), (show 0 + (5 * ndS 13 tq + 4 * ndS 13 rq + ndS 13 RM84) ≤ 5 * ndS 13 tq + 4 * ndS 13 rq + ndS 13 RM from by omega), (show 0 + (9804 * ndS 13 tq + 342 * ndS 13 rq + 36864 * ndS 13 RM84) ≤ 9804 * ndS 13 tq + 342 * ndS 13 rq + 36864 * ndS 13 RM from by omega)⟩) d_Ker_await_70
          · have nc71 : ¬ ((RF p0.toNatClampNeg) 11).toInt = (0 : Int) := mt (i_eq (x := ((RF p0.toNatClampNeg) 11)) (y := 0)).mpr c71
            refine lv_iload_n S.x S.b d_Ker_await_47 rfl (lv_at hl 0 rfl) ?_
            refine lv_iconst (v := 1) S.x S.b d_Ker_await_48 (by decide) ?_
            refine lv_icmp_ne (tgt := 64) S.x S.b d_Ker_await_49 (by decide) (fun c88 => ?_) (fun c88 => ?_)
            · have nc88 : ¬ ((RF p0.toNatClampNeg) 11).toInt = (1 : Int) := mt (i_eq (x := ((RF p0.toNatClampNeg) 11)) (y := 1)).mpr c88
              refine lv_iload_n S.x S.b d_Ker_await_64 rfl (lv_at hl 0 rfl) ?_
              refine lv_ineg S.x S.b d_Ker_await_65 ?_
              have lr90 := Int32.le_toInt ((RF p0.toNatClampNeg) 11)
              have ur90 := Int32.toInt_lt ((RF p0.toNatClampNeg) 11)
              refine lv_topi (fun z91 ez91 => ?_)
              have lz91 := Int32.le_toInt z91
              have uz91 := Int32.toInt_lt z91
              have hw : pw D A s.heap _ _ [wd_Ker cs hk kr (fun _ => none) kf ka (gKe pq pz tq rq), fm 13 (fTx cs tq TR TO TF TA), fm 8 (fPp cs pq PV), fm 13 (fRw cs rq RR RM RW RF RA RC)] := frw_back (pr := [wd_Ker cs hk kr (fun _ => none) kf ka (gKe pq pz tq rq), fm 13 (fTx cs tq TR TO TF TA), fm 8 (fPp cs pq PV)]) hw hi14 hcu15.1 hto69
              have hw : pw D A s.heap _ _ [wd_Ker cs hk kr (fun _ => none) kf ka (gKe pq pz tq rq), fm 13 (fTx cs tq TR TO TF TA), fm 8 (fPp cs pq PV), fo 13 (fRw cs rq RR RM RW RF RA RC) ip, wd_Raw cs hx (RR ip) (fun k => if k = 2 then (RM ip) else if k = 4 then (some ((PV j1).r 1)) else none) (RF ip) (RA ip) (fun _ _ => none), nA cs (RM ip) 36864 (RC ip)] := frw_out (pr := [wd_Ker cs hk kr (fun _ => none) kf ka (gKe pq pz tq rq), fm 13 (fTx cs tq TR TO TF TA), fm 8 (fPp cs pq PV)]) hw hip hcu.1 hto1
              have hng92 := ndS_ge 13 RM ip hip
              have hrn92 : RwN ip (RF ip) := hki.2.2.1 ip hip _ hcu.1
              have hro92 := hrn92.1
              unfold RwO at hro92
              have hid92 := hrn92.2.1
              have hch92 := hrn92.2.2
              unfold KcI at hch92
              have hw : pw D A s.heap _ _ [wd_Ker cs hk kr (fun _ => none) kf ka (gKe pq pz tq rq), fm 13 (fTx cs tq TR TO TF TA), fm 8 (fPp cs pq PV), fo 13 (fRw cs rq RR RM RW RF RA RC) ip, nA cs (RM ip) 36864 (RC ip), wd_Raw cs hx (RR ip) (fun k => if k = 2 then (RM ip) else if k = 4 then (some ((PV j1).r 1)) else none) (RF ip) (RA ip) (fun _ _ => none)] := hw.sub [0, 1, 2, 3, 5, 4] rfl rfl
              refine px_callv (pr := [wd_Ker cs hk kr (fun _ => none) kf ka (gKe pq pz tq rq), fm 13 (fTx cs tq TR TO TF TA), fm 8 (fPp cs pq PV), fo 13 (fRw cs rq RR RM RW RF RA RC) ip, nA cs (RM ip) 36864 (RC ip)]) (px_runA (As := [.int z91]) (rest := []) S (c_Raw_answer l D cs hx (RR ip) (fun _ _ => none) (RM ip) (some ((PV j1).r 1)) (RF ip) (RA ip) z91  (show 1 ≤ ((RF ip) 7).toInt from by omega) _) hT (pr := [wd_Ker cs hk kr (fun _ => none) kf ka (gKe pq pz tq rq), fm 13 (fTx cs tq TR TO TF TA), fm 8 (fPp cs pq PV), fo 13 (fRw cs rq RR RM RW RF RA RC) ip, nA cs (RM ip) 36864 (RC ip)]) (pcs := [wd_Raw cs hx (RR ip) (fun k => if k = 2 then (RM ip) else if k = 4 then (some ((PV j1).r 1)) else none) (RF ip) (RA ip) (fun _ _ => none)]) hw px_X.tt (C := "HomeSystem$RawProcess") (owner := "HomeSystem$AnyProcess") (x := ⟨"HomeSystem$AnyProcess", "answer", "(I)V"⟩) (px_recv hT hw 5 0 rfl rfl rfl) m8_72 m8_67 m8_69 m8_71 m8_70 m1_34 m8_68n ⟨by decide, by decide⟩ rfl q_Raw_answer ⟨Nat.le_of_ble_eq_true rfl, Nat.le_of_ble_eq_true rfl⟩ hl.1 rfl (Nat.le_of_ble_eq_true rfl) d_Ker_await_66 ⟨show 0 + 0 ≤ (5 * ndS 13 tq + 4 * ndS 13 rq + ndS 13 RM) from (by first | exact oz_9c199dfd7f | omega), show 0 + 0 ≤ (9804 * ndS 13 tq + 342 * ndS 13 rq + 36864 * ndS 13 RM) from (by first | exact oz_54615505fb | omega)⟩) hw hA (fun p95 H locs hp95 hw => ?_)
              obtain ⟨f93, a94, rfl, e97, e98, e99, e100, e101, e102⟩ := hp95
              have e97 : (f93 7).toInt = ((RF ip) 7).toInt - 1 := e97
              have e98 : (f93 8).toInt = ((RF ip) 8).toInt := e98
              have e99 : (f93 10).toInt = ((RF ip) 10).toInt := e99
              have e100 : (f93 13).toInt = ((RF ip) 13).toInt := e100
              have e101 : (f93 14).toInt = 0 := e101
              have e102 : (f93 11).toInt = ((RF ip) 11).toInt := e102
              have hw : pw D A s.heap H locs [wd_Ker cs hk kr (fun _ => none) kf ka (gKe pq pz tq rq), fm 13 (fTx cs tq TR TO TF TA), fm 8 (fPp cs pq PV), fo 13 (fRw cs rq RR RM RW RF RA RC) ip, nA cs (RM ip) 36864 (RC ip), wd_Raw cs hx (RR ip) (fun k => if k = 2 then (RM ip) else if k = 4 then (some ((PV j1).r 1)) else none) f93 a94 (fun _ _ => none)] := hw
              refine lv_iconst (v := 1) S.x S.b d_Ker_await_69 (by decide) ?_
              have hw : pw D A s.heap _ _ [wd_Ker cs hk kr (fun _ => none) kf ka (gKe pq pz tq rq), fm 13 (fTx cs tq TR TO TF TA), fm 8 (fPp cs pq PV), fo 13 (fRw cs rq RR RM RW RF RA RC) ip, wd_Raw cs hx (RR ip) (fun k => if k = 2 then (RM ip) else if k = 4 then (some ((PV j1).r 1)) else none) f93 a94 (fun _ _ => none), nA cs (RM ip) 36864 (RC ip)] := hw.sub [0, 1, 2, 3, 5, 4] rfl rfl
              have hw := frw_in0 (pr := [wd_Ker cs hk kr (fun _ => none) kf ka (gKe pq pz tq rq), fm 13 (fTx cs tq TR TO TF TA), fm 8 (fPp cs pq PV)]) hw hip hcu.1 hto1
              obtain ⟨RM103, hu_RM103⟩ : ∃ y : Nat → Option Nat, y = va_up RM ip (RM ip) := ⟨_, rfl⟩
              obtain ⟨RF104, hu_RF104⟩ : ∃ y : Nat → Nat → Int32, y = va_up RF ip f93 := ⟨_, rfl⟩
              obtain ⟨RA105, hu_RA105⟩ : ∃ y : Nat → Nat → Nat → Int32, y = va_up RA ip a94 := ⟨_, rfl⟩
              obtain ⟨RC106, hu_RC106⟩ : ∃ y : Nat → Nat → Int32, y = va_up RC ip (RC ip) := ⟨_, rfl⟩
              have hw : pw D A s.heap _ _ [wd_Ker cs hk kr (fun _ => none) kf ka (gKe pq pz tq rq), fm 13 (fTx cs tq TR TO TF TA), fm 8 (fPp cs pq PV), fm 13 (fRw cs rq RR RM103 RW RF104 RA105 RC106)] := (by rw [hu_RM103, hu_RF104, hu_RA105, hu_RC106]; exact hw)
              have hki : KnI pq PV pz tq rq TO TF TA RW RF104 := (by rw [hu_RF104]; exact hki.upR (show RwN ip f93 from ⟨(show (0 ≤ (f93 7).toInt ∧ (f93 7).toInt ≤ 1600) ∧ (0 ≤ (f93 10).toInt ∧ (f93 10).toInt + (f93 7).toInt ≤ 1600) ∧ ((f93 14).toInt = 0 ∨ (f93 14).toInt = 1) ∧ ((f93 14).toInt = 1 → 1 ≤ (f93 7).toInt) from by omega), (show ((f93 8).toInt) = ((ip : Nat) : Int) from by omega), (show 0 ≤ (f93 13).toInt ∧ (f93 13).toInt ≤ 3 ∧ ((f93 13).toInt = 0 ∨ 3 * ((ip : Nat) : Int) + (f93 13).toInt ≤ 12) from by omega)⟩))
              have hrm : RmI rq RM103 := (by rw [hu_RM103]; exact hrm.up hcu.1)
              have hnd_RM103 := ndS_up 13 RM ip (RM ip) hip; rw [← hu_RM103] at hnd_RM103
              have hz14_RF104 : (RF104 ip 14).toInt = (f93 14).toInt := (by rw [hu_RF104, va_up_s]; try rfl)
              have hw : pw D A s.heap _ _ [wd_Ker cs hk kr (fun _ => none) kf ka (gKe pq pz tq rq), fm 13 (fTx cs tq TR TO TF TA), fm 13 (fRw cs rq RR RM103 RW RF104 RA105 RC106), fm 8 (fPp cs pq PV)] := hw.sub [0, 1, 3, 2] rfl rfl
              exact pg_iret (v := 1) S hr rfl hlk hAe hw (show 0 ≤ (5 * ndS 13 tq + 4 * ndS 13 rq + ndS 13 RM) from by first | exact oz_86e49526c7 | omega) (show 0 ≤ (9804 * ndS 13 tq + 342 * ndS 13 rq + 36864 * ndS 13 RM) from by first | exact oz_fc3b58e969 | omega) (⟨pz, tq, rq, ka, TR, TO, TF, TA, RR, RM103, RW, RF104, RA105, RC106, rfl, (show (1 : Int32) = 0 ∨ (1 : Int32) = 1 from by first | exact Or.inl rfl | exact Or.inr rfl | exact z_or (by omega)), (show CuR pq PV rq RW ip hx from hcu), (show KnI pq PV pz tq rq TO TF TA RW RF104 from hki), (show RoI ka from hro), (show RmI rq RM103 from hrm), (show 0 + (5 * ndS 13 tq + 4 * ndS 13 rq + ndS 13 RM103) ≤ 5 * ndS 13 tq + 4 * ndS 13 rq + ndS 13 RM from by omega), (show 0 + (9804 * ndS 13 tq + 342 * ndS 13 rq + 36864 * ndS 13 RM103) ≤ 9804 * ndS 13 tq + 342 * ndS 13 rq + 36864 * ndS 13 RM from by omega)⟩) d_Ker_await_70
            · have nc88 : ((RF p0.toNatClampNeg) 11).toInt = (1 : Int) := (i_eq (x := ((RF p0.toNatClampNeg) 11)) (y := 1)).mp c88
              refine lv_aload_n S.x S.b d_Ker_await_52 rfl (lv_at hl 1 rfl) ?_
              refine px_get S k_Ker hT hw 0 0 2 (v := .ref (kr 2)) rfl rfl rfl (by decide) m2_222 d_Ker_await_53 ?_
              refine lv_iload_n S.x S.b d_Ker_await_56 rfl (lv_at hl 3 rfl) ?_
              refine px_aaldS S hT hw 0 3 6 (n := 13) (f := pz) rfl rfl rfl (x := p0) (vp_in_iff.mpr (by first | exact oz_3859d57d28 hc14 hi14 | (constructor <;> omega))) (sk := q12) hr14 d_Ker_await_57 ?_
              refine px_get S k_Raw hT hw 4 0 12 (v := .int ((RF p0.toNatClampNeg) 12)) rfl rfl rfl (by decide) m6_146 d_Ker_await_58 ?_
              refine lv_goto (tgt := 66) S.x S.b d_Ker_await_61 (by decide) ?_
              have hw : pw D A s.heap _ _ [wd_Ker cs hk kr (fun _ => none) kf ka (gKe pq pz tq rq), fm 13 (fTx cs tq TR TO TF TA), fm 8 (fPp cs pq PV), fm 13 (fRw cs rq RR RM RW RF RA RC)] := frw_back (pr := [wd_Ker cs hk kr (fun _ => none) kf ka (gKe pq pz tq rq), fm 13 (fTx cs tq TR TO TF TA), fm 8 (fPp cs pq PV)]) hw hi14 hcu15.1 hto69
              have hw : pw D A s.heap _ _ [wd_Ker cs hk kr (fun _ => none) kf ka (gKe pq pz tq rq), fm 13 (fTx cs tq TR TO TF TA), fm 8 (fPp cs pq PV), fo 13 (fRw cs rq RR RM RW RF RA RC) ip, wd_Raw cs hx (RR ip) (fun k => if k = 2 then (RM ip) else if k = 4 then (some ((PV j1).r 1)) else none) (RF ip) (RA ip) (fun _ _ => none), nA cs (RM ip) 36864 (RC ip)] := frw_out (pr := [wd_Ker cs hk kr (fun _ => none) kf ka (gKe pq pz tq rq), fm 13 (fTx cs tq TR TO TF TA), fm 8 (fPp cs pq PV)]) hw hip hcu.1 hto1
              have hng107 := ndS_ge 13 RM ip hip
              have hrn107 : RwN ip (RF ip) := hki.2.2.1 ip hip _ hcu.1
              have hro107 := hrn107.1
              unfold RwO at hro107
              have hid107 := hrn107.2.1
              have hch107 := hrn107.2.2
              unfold KcI at hch107
              have hw : pw D A s.heap _ _ [wd_Ker cs hk kr (fun _ => none) kf ka (gKe pq pz tq rq), fm 13 (fTx cs tq TR TO TF TA), fm 8 (fPp cs pq PV), fo 13 (fRw cs rq RR RM RW RF RA RC) ip, nA cs (RM ip) 36864 (RC ip), wd_Raw cs hx (RR ip) (fun k => if k = 2 then (RM ip) else if k = 4 then (some ((PV j1).r 1)) else none) (RF ip) (RA ip) (fun _ _ => none)] := hw.sub [0, 1, 2, 3, 5, 4] rfl rfl
              refine px_callv (pr := [wd_Ker cs hk kr (fun _ => none) kf ka (gKe pq pz tq rq), fm 13 (fTx cs tq TR TO TF TA), fm 8 (fPp cs pq PV), fo 13 (fRw cs rq RR RM RW RF RA RC) ip, nA cs (RM ip) 36864 (RC ip)]) (px_runA (As := [.int ((RF p0.toNatClampNeg) 12)]) (rest := []) S (c_Raw_answer l D cs hx (RR ip) (fun _ _ => none) (RM ip) (some ((PV j1).r 1)) (RF ip) (RA ip) ((RF p0.toNatClampNeg) 12)  (show 1 ≤ ((RF ip) 7).toInt from by omega) _) hT (pr := [wd_Ker cs hk kr (fun _ => none) kf ka (gKe pq pz tq rq), fm 13 (fTx cs tq TR TO TF TA), fm 8 (fPp cs pq PV), fo 13 (fRw cs rq RR RM RW RF RA RC) ip, nA cs (RM ip) 36864 (RC ip)]) (pcs := [wd_Raw cs hx (RR ip) (fun k => if k = 2 then (RM ip) else if k = 4 then (some ((PV j1).r 1)) else none) (RF ip) (RA ip) (fun _ _ => none)]) hw px_X.tt (C := "HomeSystem$RawProcess") (owner := "HomeSystem$AnyProcess") (x := ⟨"HomeSystem$AnyProcess", "answer", "(I)V"⟩) (px_recv hT hw 5 0 rfl rfl rfl) m8_72 m8_67 m8_69 m8_71 m8_70 m1_34 m8_68n ⟨by decide, by decide⟩ rfl q_Raw_answer ⟨Nat.le_of_ble_eq_true rfl, Nat.le_of_ble_eq_true rfl⟩ hl.1 rfl (Nat.le_of_ble_eq_true rfl) d_Ker_await_66 ⟨show 0 + 0 ≤ (5 * ndS 13 tq + 4 * ndS 13 rq + ndS 13 RM) from (by first | exact oz_9c199dfd7f | omega), show 0 + 0 ≤ (9804 * ndS 13 tq + 342 * ndS 13 rq + 36864 * ndS 13 RM) from (by first | exact oz_54615505fb | omega)⟩) hw hA (fun p110 H locs hp110 hw => ?_)
              obtain ⟨f108, a109, rfl, e112, e113, e114, e115, e116, e117⟩ := hp110
              have e112 : (f108 7).toInt = ((RF ip) 7).toInt - 1 := e112
              have e113 : (f108 8).toInt = ((RF ip) 8).toInt := e113
              have e114 : (f108 10).toInt = ((RF ip) 10).toInt := e114
              have e115 : (f108 13).toInt = ((RF ip) 13).toInt := e115
              have e116 : (f108 14).toInt = 0 := e116
              have e117 : (f108 11).toInt = ((RF ip) 11).toInt := e117
              have hw : pw D A s.heap H locs [wd_Ker cs hk kr (fun _ => none) kf ka (gKe pq pz tq rq), fm 13 (fTx cs tq TR TO TF TA), fm 8 (fPp cs pq PV), fo 13 (fRw cs rq RR RM RW RF RA RC) ip, nA cs (RM ip) 36864 (RC ip), wd_Raw cs hx (RR ip) (fun k => if k = 2 then (RM ip) else if k = 4 then (some ((PV j1).r 1)) else none) f108 a109 (fun _ _ => none)] := hw
              refine lv_iconst (v := 1) S.x S.b d_Ker_await_69 (by decide) ?_
              have hw : pw D A s.heap _ _ [wd_Ker cs hk kr (fun _ => none) kf ka (gKe pq pz tq rq), fm 13 (fTx cs tq TR TO TF TA), fm 8 (fPp cs pq PV), fo 13 (fRw cs rq RR RM RW RF RA RC) ip, wd_Raw cs hx (RR ip) (fun k => if k = 2 then (RM ip) else if k = 4 then (some ((PV j1).r 1)) else none) f108 a109 (fun _ _ => none), nA cs (RM ip) 36864 (RC ip)] := hw.sub [0, 1, 2, 3, 5, 4] rfl rfl
              have hw := frw_in0 (pr := [wd_Ker cs hk kr (fun _ => none) kf ka (gKe pq pz tq rq), fm 13 (fTx cs tq TR TO TF TA), fm 8 (fPp cs pq PV)]) hw hip hcu.1 hto1
              obtain ⟨RM118, hu_RM118⟩ : ∃ y : Nat → Option Nat, y = va_up RM ip (RM ip) := ⟨_, rfl⟩
              obtain ⟨RF119, hu_RF119⟩ : ∃ y : Nat → Nat → Int32, y = va_up RF ip f108 := ⟨_, rfl⟩
              obtain ⟨RA120, hu_RA120⟩ : ∃ y : Nat → Nat → Nat → Int32, y = va_up RA ip a109 := ⟨_, rfl⟩
              obtain ⟨RC121, hu_RC121⟩ : ∃ y : Nat → Nat → Int32, y = va_up RC ip (RC ip) := ⟨_, rfl⟩
              have hw : pw D A s.heap _ _ [wd_Ker cs hk kr (fun _ => none) kf ka (gKe pq pz tq rq), fm 13 (fTx cs tq TR TO TF TA), fm 8 (fPp cs pq PV), fm 13 (fRw cs rq RR RM118 RW RF119 RA120 RC121)] := (by rw [hu_RM118, hu_RF119, hu_RA120, hu_RC121]; exact hw)
              have hki : KnI pq PV pz tq rq TO TF TA RW RF119 := (by rw [hu_RF119]; exact hki.upR (show RwN ip f108 from ⟨(show (0 ≤ (f108 7).toInt ∧ (f108 7).toInt ≤ 1600) ∧ (0 ≤ (f108 10).toInt ∧ (f108 10).toInt + (f108 7).toInt ≤ 1600) ∧ ((f108 14).toInt = 0 ∨ (f108 14).toInt = 1) ∧ ((f108 14).toInt = 1 → 1 ≤ (f108 7).toInt) from by omega), (show ((f108 8).toInt) = ((ip : Nat) : Int) from by omega), (show 0 ≤ (f108 13).toInt ∧ (f108 13).toInt ≤ 3 ∧ ((f108 13).toInt = 0 ∨ 3 * ((ip : Nat) : Int) + (f108 13).toInt ≤ 12) from by omega)⟩))
              have hrm : RmI rq RM118 := (by rw [hu_RM118]; exact hrm.up hcu.1)
              have hnd_RM118 := ndS_up 13 RM ip (RM ip) hip; rw [← hu_RM118] at hnd_RM118
              have hz14_RF119 : (RF119 ip 14).toInt = (f108 14).toInt := (by rw [hu_RF119, va_up_s]; try rfl)
              have hw : pw D A s.heap _ _ [wd_Ker cs hk kr (fun _ => none) kf ka (gKe pq pz tq rq), fm 13 (fTx cs tq TR TO TF TA), fm 13 (fRw cs rq RR RM118 RW RF119 RA120 RC121), fm 8 (fPp cs pq PV)] := hw.sub [0, 1, 3, 2] rfl rfl
              exact pg_iret (v := 1) S hr rfl hlk hAe hw (show 0 ≤ (5 * ndS 13 tq + 4 * ndS 13 rq + ndS 13 RM) from by first | exact oz_86e49526c7 | omega) (show 0 ≤ (9804 * ndS 13 tq + 342 * ndS 13 rq + 36864 * ndS 13 RM) from by first | exact oz_fc3b58e969 | omega) (⟨pz, tq, rq, ka, TR, TO, TF, TA, RR, RM118, RW, RF119, RA120, RC121, rfl, (show (1 : Int32) = 0 ∨ (1 : Int32) = 1 from by first | exact Or.inl rfl | exact Or.inr rfl | exact z_or (by omega)), (show CuR pq PV rq RW ip hx from hcu), (show KnI pq PV pz tq rq TO TF TA RW RF119 from hki), (show RoI ka from hro), (show RmI rq RM118 from hrm), (show 0 + (5 * ndS 13 tq + 4 * ndS 13 rq + ndS 13 RM118) ≤ 5 * ndS 13 tq + 4 * ndS 13 rq + ndS 13 RM from by omega), (show 0 + (9804 * ndS 13 tq + 342 * ndS 13 rq + 36864 * ndS 13 RM118) ≤ 9804 * ndS 13 tq + 342 * ndS 13 rq + 36864 * ndS 13 RM from by omega)⟩) d_Ker_await_70
      ·
        subst c11
        have nd0_c11 := nd_0
        have hc122 := cl_nat (x := p0) (by first | exact oz_016f458179 hc122 | omega)
        have hi122 : p0.toNatClampNeg < 13 := by first | exact oz_50e7088b63 hc122 g0 | omega
        have hr122 := hy10.symm
        refine lv_iconst (v := 0) S.x S.b d_Ker_await_30 (by decide) ?_
        exact pg_iret (v := 0) S hr rfl hlk hAe hw (show 0 ≤ (5 * ndS 13 tq + 4 * ndS 13 rq + ndS 13 RM) from by first | exact oz_86e49526c7 | omega) (show 0 ≤ (9804 * ndS 13 tq + 342 * ndS 13 rq + 36864 * ndS 13 RM) from by first | exact oz_fc3b58e969 | omega) (⟨pz, tq, rq, ka, TR, TO, TF, TA, RR, RM, RW, RF, RA, RC, rfl, (show (0 : Int32) = 0 ∨ (0 : Int32) = 1 from by first | exact Or.inl rfl | exact Or.inr rfl | exact z_or (by omega)), (show CuR pq PV rq RW ip hx from hcu), (show KnI pq PV pz tq rq TO TF TA RW RF from hki), (show RoI ka from hro), (show RmI rq RM from hrm), (show 0 + (5 * ndS 13 tq + 4 * ndS 13 rq + ndS 13 RM) ≤ 5 * ndS 13 tq + 4 * ndS 13 rq + ndS 13 RM from by first | exact oz_9d19b050ad | omega), (show 0 + (9804 * ndS 13 tq + 342 * ndS 13 rq + 36864 * ndS 13 RM) ≤ 9804 * ndS 13 tq + 342 * ndS 13 rq + 36864 * ndS 13 RM from by first | exact oz_b5592d0ae7 | omega)⟩) d_Ker_await_31
  · have nc2 : p0.toInt = (-1 : Int) := (i_eq (x := p0) (y := (-1))).mp c2
    refine lv_aload_n S.x S.b d_Ker_await_5 rfl (lv_at hl 1 rfl) ?_
    refine lv_iconst (v := 2) S.x S.b d_Ker_await_6 (by decide) ?_
    refine lv_iconst (v := 0) S.x S.b d_Ker_await_7 (by decide) ?_
    have hw : pw D A s.heap _ _ [wd_Ker cs hk kr (fun _ => none) kf ka (gKe pq pz tq rq), fm 13 (fTx cs tq TR TO TF TA), fm 8 (fPp cs pq PV), fm 13 (fRw cs rq RR RM RW RF RA RC)] := hw.sub [0, 1, 3, 2] rfl rfl
    have hw : pw D A s.heap _ _ [wd_Ker cs hk kr (fun _ => none) kf ka (gKe pq pz tq rq), fm 13 (fTx cs tq TR TO TF TA), fm 8 (fPp cs pq PV), fo 13 (fRw cs rq RR RM RW RF RA RC) ip, wd_Raw cs hx (RR ip) (fun k => if k = 2 then (RM ip) else if k = 4 then (some ((PV j1).r 1)) else none) (RF ip) (RA ip) (fun _ _ => none), nA cs (RM ip) 36864 (RC ip)] := frw_out (pr := [wd_Ker cs hk kr (fun _ => none) kf ka (gKe pq pz tq rq), fm 13 (fTx cs tq TR TO TF TA), fm 8 (fPp cs pq PV)]) hw hip hcu.1 hto1
    have hng123 := ndS_ge 13 RM ip hip
    have hrn123 : RwN ip (RF ip) := hki.2.2.1 ip hip _ hcu.1
    have hro123 := hrn123.1
    unfold RwO at hro123
    have hid123 := hrn123.2.1
    have hch123 := hrn123.2.2
    unfold KcI at hch123
    have hw : pw D A s.heap _ _ [wd_Ker cs hk kr (fun _ => none) kf ka (gKe pq pz tq rq), fm 13 (fTx cs tq TR TO TF TA), fm 8 (fPp cs pq PV), fo 13 (fRw cs rq RR RM RW RF RA RC) ip, nA cs (RM ip) 36864 (RC ip), wd_Raw cs hx (RR ip) (fun k => if k = 2 then (RM ip) else if k = 4 then (some ((PV j1).r 1)) else none) (RF ip) (RA ip) (fun _ _ => none)] := hw.sub [0, 1, 2, 3, 5, 4] rfl rfl
    refine px_callv (pr := [wd_Ker cs hk kr (fun _ => none) kf ka (gKe pq pz tq rq), fm 13 (fTx cs tq TR TO TF TA), fm 8 (fPp cs pq PV), fo 13 (fRw cs rq RR RM RW RF RA RC) ip, nA cs (RM ip) 36864 (RC ip)]) (px_runU (As := [.int 2, .int 0]) (rest := []) S (c_finish_Raw l D cs hx (RR ip) (fun _ _ => none) (RM ip) (some ((PV j1).r 1)) (RF ip) (RA ip) 2 0   _) hT (pr := [wd_Ker cs hk kr (fun _ => none) kf ka (gKe pq pz tq rq), fm 13 (fTx cs tq TR TO TF TA), fm 8 (fPp cs pq PV), fo 13 (fRw cs rq RR RM RW RF RA RC) ip, nA cs (RM ip) 36864 (RC ip)]) (pcs := [wd_Raw cs hx (RR ip) (fun k => if k = 2 then (RM ip) else if k = 4 then (some ((PV j1).r 1)) else none) (RF ip) (RA ip) (fun _ _ => none)]) hw px_X.tt (C := "HomeSystem$RawProcess") (x := ⟨"HomeSystem$AnyProcess", "finish", "(II)V"⟩) (px_recv hT hw 5 0 rfl rfl rfl) m8_89 m8_84 m8_86 m8_85 m8_87 m1_33 rfl q_HomeSystem_AnyProcess_finish ⟨Nat.le_of_ble_eq_true rfl, Nat.le_of_ble_eq_true rfl⟩ hl.1 rfl (Nat.le_of_ble_eq_true rfl) d_Ker_await_8 ⟨show 0 + 0 ≤ (5 * ndS 13 tq + 4 * ndS 13 rq + ndS 13 RM) from (by first | exact oz_9c199dfd7f | omega), show 0 + 0 ≤ (9804 * ndS 13 tq + 342 * ndS 13 rq + 36864 * ndS 13 RM) from (by first | exact oz_54615505fb | omega)⟩) hw hA (fun p126 H locs hp126 hw => ?_)
    obtain ⟨f124, a125, rfl, e128, e129, e130, e131, e132, e133, e134⟩ := hp126
    have e128 : (f124 3).toInt = ((RF ip) 3).toInt := e128
    have e129 : (f124 7).toInt = ((RF ip) 7).toInt := e129
    have e130 : (f124 8).toInt = ((RF ip) 8).toInt := e130
    have e131 : (f124 10).toInt = ((RF ip) 10).toInt := e131
    have e132 : (f124 13).toInt = ((RF ip) 13).toInt := e132
    have e133 : (f124 14).toInt = 0 := e133
    have e134 : (f124 11).toInt = (2 : Int) := e134
    have hw : pw D A s.heap H locs [wd_Ker cs hk kr (fun _ => none) kf ka (gKe pq pz tq rq), fm 13 (fTx cs tq TR TO TF TA), fm 8 (fPp cs pq PV), fo 13 (fRw cs rq RR RM RW RF RA RC) ip, nA cs (RM ip) 36864 (RC ip), wd_Raw cs hx (RR ip) (fun k => if k = 2 then (RM ip) else if k = 4 then (some ((PV j1).r 1)) else none) f124 a125 (fun _ _ => none)] := hw
    refine lv_iconst (v := 1) S.x S.b d_Ker_await_11 (by decide) ?_
    have hw : pw D A s.heap _ _ [wd_Ker cs hk kr (fun _ => none) kf ka (gKe pq pz tq rq), fm 13 (fTx cs tq TR TO TF TA), fm 8 (fPp cs pq PV), fo 13 (fRw cs rq RR RM RW RF RA RC) ip, wd_Raw cs hx (RR ip) (fun k => if k = 2 then (RM ip) else if k = 4 then (some ((PV j1).r 1)) else none) f124 a125 (fun _ _ => none), nA cs (RM ip) 36864 (RC ip)] := hw.sub [0, 1, 2, 3, 5, 4] rfl rfl
    have hw := frw_in0 (pr := [wd_Ker cs hk kr (fun _ => none) kf ka (gKe pq pz tq rq), fm 13 (fTx cs tq TR TO TF TA), fm 8 (fPp cs pq PV)]) hw hip hcu.1 hto1
    obtain ⟨RM135, hu_RM135⟩ : ∃ y : Nat → Option Nat, y = va_up RM ip (RM ip) := ⟨_, rfl⟩
    obtain ⟨RF136, hu_RF136⟩ : ∃ y : Nat → Nat → Int32, y = va_up RF ip f124 := ⟨_, rfl⟩
    obtain ⟨RA137, hu_RA137⟩ : ∃ y : Nat → Nat → Nat → Int32, y = va_up RA ip a125 := ⟨_, rfl⟩
    obtain ⟨RC138, hu_RC138⟩ : ∃ y : Nat → Nat → Int32, y = va_up RC ip (RC ip) := ⟨_, rfl⟩
    have hw : pw D A s.heap _ _ [wd_Ker cs hk kr (fun _ => none) kf ka (gKe pq pz tq rq), fm 13 (fTx cs tq TR TO TF TA), fm 8 (fPp cs pq PV), fm 13 (fRw cs rq RR RM135 RW RF136 RA137 RC138)] := (by rw [hu_RM135, hu_RF136, hu_RA137, hu_RC138]; exact hw)
    have hki : KnI pq PV pz tq rq TO TF TA RW RF136 := (by rw [hu_RF136]; exact hki.upR (show RwN ip f124 from ⟨(show (0 ≤ (f124 7).toInt ∧ (f124 7).toInt ≤ 1600) ∧ (0 ≤ (f124 10).toInt ∧ (f124 10).toInt + (f124 7).toInt ≤ 1600) ∧ ((f124 14).toInt = 0 ∨ (f124 14).toInt = 1) ∧ ((f124 14).toInt = 1 → 1 ≤ (f124 7).toInt) from by omega), (show ((f124 8).toInt) = ((ip : Nat) : Int) from by omega), (show 0 ≤ (f124 13).toInt ∧ (f124 13).toInt ≤ 3 ∧ ((f124 13).toInt = 0 ∨ 3 * ((ip : Nat) : Int) + (f124 13).toInt ≤ 12) from by omega)⟩))
    have hrm : RmI rq RM135 := (by rw [hu_RM135]; exact hrm.up hcu.1)
    have hnd_RM135 := ndS_up 13 RM ip (RM ip) hip; rw [← hu_RM135] at hnd_RM135
    have hz14_RF136 : (RF136 ip 14).toInt = (f124 14).toInt := (by rw [hu_RF136, va_up_s]; try rfl)
    have hw : pw D A s.heap _ _ [wd_Ker cs hk kr (fun _ => none) kf ka (gKe pq pz tq rq), fm 13 (fTx cs tq TR TO TF TA), fm 13 (fRw cs rq RR RM135 RW RF136 RA137 RC138), fm 8 (fPp cs pq PV)] := hw.sub [0, 1, 3, 2] rfl rfl
    exact pg_iret (v := 1) S hr rfl hlk hAe hw (show 0 ≤ (5 * ndS 13 tq + 4 * ndS 13 rq + ndS 13 RM) from by first | exact oz_86e49526c7 | omega) (show 0 ≤ (9804 * ndS 13 tq + 342 * ndS 13 rq + 36864 * ndS 13 RM) from by first | exact oz_fc3b58e969 | omega) (⟨pz, tq, rq, ka, TR, TO, TF, TA, RR, RM135, RW, RF136, RA137, RC138, rfl, (show (1 : Int32) = 0 ∨ (1 : Int32) = 1 from by first | exact Or.inl rfl | exact Or.inr rfl | exact z_or (by omega)), (show CuR pq PV rq RW ip hx from hcu), (show KnI pq PV pz tq rq TO TF TA RW RF136 from hki), (show RoI ka from hro), (show RmI rq RM135 from hrm), (show 0 + (5 * ndS 13 tq + 4 * ndS 13 rq + ndS 13 RM135) ≤ 5 * ndS 13 tq + 4 * ndS 13 rq + ndS 13 RM from by omega), (show 0 + (9804 * ndS 13 tq + 342 * ndS 13 rq + 36864 * ndS 13 RM135) ≤ 9804 * ndS 13 tq + 342 * ndS 13 rq + 36864 * ndS 13 RM from by omega)⟩) d_Ker_await_12
