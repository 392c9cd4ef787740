theorem oz_3e0efcc333 {n0 n1 n2 n3 n4 n5 n6 : Nat} (h0 : n0 + (5 * n4 + 4 * n5 + n6) ≤ 5 * n1 + 4 * n2 + n3) : n0 + 0 ≤ (5 * n1 + 4 * n2 + n3) := by omega
theorem oz_93e1379802 {n0 n1 n2 n3 n4 n5 n6 : Nat} (h0 : n0 + (9804 * n4 + 342 * n5 + 36864 * n6) ≤ 9804 * n1 + 342 * n2 + 36864 * n3) : n0 + 0 ≤ (9804 * n1 + 342 * n2 + 36864 * n3) := by omega
theorem oz_dca5c4e7e4 {n0 n1 n2 n3 n4 n5 n6 : Nat} (h0 : n0 + (5 * n4 + 4 * n5 + n6) ≤ 5 * n1 + 4 * n2 + n3) : n0 ≤ (5 * n1 + 4 * n2 + n3) := by omega
theorem oz_f7eb847e67 {n0 n1 n2 n3 n4 n5 n6 : Nat} (h0 : n0 + (9804 * n4 + 342 * n5 + 36864 * n6) ≤ 9804 * n1 + 342 * n2 + 36864 * n3) : n0 ≤ (9804 * n1 + 342 * n2 + 36864 * n3) := by omega
theorem oz_903bb5f34d {a0 a1 a2 a3 : Int} (h0 : a0 = a1 + a2) (h1 : 0 ≤ a2) (h2 : a1 = 16 * a3) (h3 : 0 ≤ a3) (h4 : ¬ (16 : Int) ≤ a2) (h5 : a3 ≤ 7) : 0 ≤ a0 ∧ a0 < ((128 : Nat) : Int) := by omega
theorem oz_2516c64904 {a0 : Int} (h0 : a0 < (8 : Int)) : a0 ≤ 7 := by omega
theorem m8_130 : Cond.methodLink "HomeSystem$Kernel" 155 ⟨"HomeSystem$AnyProcess", "wordToMove", "(I)I"⟩ ∈ AL := AL_8 (List.mem_of_getElem? (i := 130) rfl) rfl
theorem m8_142 : Cond.code ⟨"HomeSystem$TextProcess", "wordToMove", "(I)I"⟩ prog_11_method_6_code 2 (Option.some FieldType.int) ∈ AL := AL_8 (List.mem_of_getElem? (i := 142) rfl) rfl
theorem m8_132 : Cond.sameMethod "HomeSystem$AnyProcess" "HomeSystem$AnyProcess" "wordToMove" "(I)I" ∈ AL := AL_8 (List.mem_of_getElem? (i := 132) rfl) rfl
theorem m8_141 : Cond.instanceMethod ⟨"HomeSystem$TextProcess", "wordToMove", "(I)I"⟩ ∈ AL := AL_8 (List.mem_of_getElem? (i := 141) rfl) rfl
theorem m8_140 : Cond.selects "HomeSystem$TextProcess" ⟨"HomeSystem$AnyProcess", "wordToMove", "(I)I"⟩ ⟨"HomeSystem$TextProcess", "wordToMove", "(I)I"⟩ ∈ AL := AL_8 (List.mem_of_getElem? (i := 140) rfl) rfl
theorem m8_131n : Cond.declares ⟨"HomeSystem$AnyProcess", "wordToMove", "(I)I"⟩ ∈ tables_1 := by unfold tables_1; exact List.mem_append_right _ (List.mem_append_right _ (List.mem_append_right _ (List.mem_append_right _ (List.mem_append_right _ (List.mem_append_right _ (List.mem_append_right _ (List.mem_append_left _ (List.mem_of_getElem? (i := 131) rfl))))))))
theorem m8_111 : Cond.methodLink "HomeSystem$Kernel" 152 ⟨"HomeSystem$AnyProcess", "moveWord", "(II)V"⟩ ∈ AL := AL_8 (List.mem_of_getElem? (i := 111) rfl) rfl
theorem m8_125 : Cond.code ⟨"HomeSystem$TextProcess", "moveWord", "(II)V"⟩ prog_11_method_7_code 3 (Option.none : Option Jvm.ClassFile.FieldType) ∈ AL := AL_8 (List.mem_of_getElem? (i := 125) rfl) rfl
theorem m8_113 : Cond.sameMethod "HomeSystem$AnyProcess" "HomeSystem$AnyProcess" "moveWord" "(II)V" ∈ AL := AL_8 (List.mem_of_getElem? (i := 113) rfl) rfl
theorem m8_124 : Cond.instanceMethod ⟨"HomeSystem$TextProcess", "moveWord", "(II)V"⟩ ∈ AL := AL_8 (List.mem_of_getElem? (i := 124) rfl) rfl
theorem m8_123 : Cond.selects "HomeSystem$TextProcess" ⟨"HomeSystem$AnyProcess", "moveWord", "(II)V"⟩ ⟨"HomeSystem$TextProcess", "moveWord", "(II)V"⟩ ∈ AL := AL_8 (List.mem_of_getElem? (i := 123) rfl) rfl
theorem m8_112n : Cond.declares ⟨"HomeSystem$AnyProcess", "moveWord", "(II)V"⟩ ∈ tables_1 := by unfold tables_1; exact List.mem_append_right _ (List.mem_append_right _ (List.mem_append_right _ (List.mem_append_right _ (List.mem_append_right _ (List.mem_append_right _ (List.mem_append_right _ (List.mem_append_left _ (List.mem_of_getElem? (i := 112) rfl))))))))
theorem m8_90 : Cond.methodLink "HomeSystem$Kernel" 148 ⟨"HomeSystem$AnyProcess", "movable", "()I"⟩ ∈ AL := AL_8 (List.mem_of_getElem? (i := 90) rfl) rfl
theorem m8_110 : Cond.code ⟨"HomeSystem$TextProcess", "movable", "()I"⟩ prog_11_method_5_code 1 (Option.some FieldType.int) ∈ AL := AL_8 (List.mem_of_getElem? (i := 110) rfl) rfl
theorem m8_92 : Cond.sameMethod "HomeSystem$AnyProcess" "HomeSystem$AnyProcess" "movable" "()I" ∈ AL := AL_8 (List.mem_of_getElem? (i := 92) rfl) rfl
theorem m8_109 : Cond.instanceMethod ⟨"HomeSystem$TextProcess", "movable", "()I"⟩ ∈ AL := AL_8 (List.mem_of_getElem? (i := 109) rfl) rfl
theorem m8_108 : Cond.selects "HomeSystem$TextProcess" ⟨"HomeSystem$AnyProcess", "movable", "()I"⟩ ⟨"HomeSystem$TextProcess", "movable", "()I"⟩ ∈ AL := AL_8 (List.mem_of_getElem? (i := 108) rfl) rfl
theorem m8_91n : Cond.declares ⟨"HomeSystem$AnyProcess", "movable", "()I"⟩ ∈ tables_1 := by unfold tables_1; exact List.mem_append_right _ (List.mem_append_right _ (List.mem_append_right _ (List.mem_append_right _ (List.mem_append_right _ (List.mem_append_right _ (List.mem_append_right _ (List.mem_append_left _ (List.mem_of_getElem? (i := 91) rfl))))))))
theorem m8_135 : Cond.code ⟨"HomeSystem$RawProcess", "wordToMove", "(I)I"⟩ prog_8_method_6_code 2 (Option.some FieldType.int) ∈ AL := AL_8 (List.mem_of_getElem? (i := 135) rfl) rfl
theorem m8_134 : Cond.instanceMethod ⟨"HomeSystem$RawProcess", "wordToMove", "(I)I"⟩ ∈ AL := AL_8 (List.mem_of_getElem? (i := 134) rfl) rfl
theorem m8_133 : Cond.selects "HomeSystem$RawProcess" ⟨"HomeSystem$AnyProcess", "wordToMove", "(I)I"⟩ ⟨"HomeSystem$RawProcess", "wordToMove", "(I)I"⟩ ∈ AL := AL_8 (List.mem_of_getElem? (i := 133) rfl) rfl
theorem m8_116 : Cond.code ⟨"HomeSystem$RawProcess", "moveWord", "(II)V"⟩ prog_8_method_7_code 3 (Option.none : Option Jvm.ClassFile.FieldType) ∈ AL := AL_8 (List.mem_of_getElem? (i := 116) rfl) rfl
theorem m8_115 : Cond.instanceMethod ⟨"HomeSystem$RawProcess", "moveWord", "(II)V"⟩ ∈ AL := AL_8 (List.mem_of_getElem? (i := 115) rfl) rfl
theorem m8_114 : Cond.selects "HomeSystem$RawProcess" ⟨"HomeSystem$AnyProcess", "moveWord", "(II)V"⟩ ⟨"HomeSystem$RawProcess", "moveWord", "(II)V"⟩ ∈ AL := AL_8 (List.mem_of_getElem? (i := 114) rfl) rfl
theorem m8_95 : Cond.code ⟨"HomeSystem$RawProcess", "movable", "()I"⟩ prog_8_method_5_code 5 (Option.some FieldType.int) ∈ AL := AL_8 (List.mem_of_getElem? (i := 95) rfl) rfl
theorem m8_94 : Cond.instanceMethod ⟨"HomeSystem$RawProcess", "movable", "()I"⟩ ∈ AL := AL_8 (List.mem_of_getElem? (i := 94) rfl) rfl
theorem m8_93 : Cond.selects "HomeSystem$RawProcess" ⟨"HomeSystem$AnyProcess", "movable", "()I"⟩ ⟨"HomeSystem$RawProcess", "movable", "()I"⟩ ∈ AL := AL_8 (List.mem_of_getElem? (i := 93) rfl) rfl
abbrev b_Ker_move : ByteArray := prog_4_method_12_code
def y_Ker_move : MethodName := ⟨"HomeSystem$Kernel", "move", "(LHomeSystem$AnyProcess;I)V"⟩
theorem d_Ker_move_0 : decode b_Ker_move 0 = .ok (.aload_n 1, 1) := by decide +kernel
theorem d_Ker_move_1 : decode b_Ker_move 1 = .ok (.getfield 101, 3) := by decide +kernel
theorem d_Ker_move_4 : decode b_Ker_move 4 = .ok (.ifCond .ne 13, 3) := by decide +kernel
theorem d_Ker_move_7 : decode b_Ker_move 7 = .ok (.iload_n 2, 1) := by decide +kernel
theorem d_Ker_move_8 : decode b_Ker_move 8 = .ok (.ifCond .lt 9, 3) := by decide +kernel
theorem d_Ker_move_11 : decode b_Ker_move 11 = .ok (.iload_n 2, 1) := by decide +kernel
theorem d_Ker_move_12 : decode b_Ker_move 12 = .ok (.bipush 8, 2) := by decide +kernel
theorem d_Ker_move_14 : decode b_Ker_move 14 = .ok (.if_icmp .lt 10, 3) := by decide +kernel
theorem d_Ker_move_17 : decode b_Ker_move 17 = .ok (.aload_n 1, 1) := by decide +kernel
theorem d_Ker_move_18 : decode b_Ker_move 18 = .ok (.iconst 2, 1) := by decide +kernel
theorem d_Ker_move_19 : decode b_Ker_move 19 = .ok (.iconst 0, 1) := by decide +kernel
theorem d_Ker_move_20 : decode b_Ker_move 20 = .ok (.invokevirtual 74, 3) := by decide +kernel
theorem d_Ker_move_23 : decode b_Ker_move 23 = .ok (.return_, 1) := by decide +kernel
theorem d_Ker_move_24 : decode b_Ker_move 24 = .ok (.aload_n 1, 1) := by decide +kernel
theorem d_Ker_move_25 : decode b_Ker_move 25 = .ok (.invokevirtual 148, 3) := by decide +kernel
theorem d_Ker_move_28 : decode b_Ker_move 28 = .ok (.istore_n 3, 1) := by decide +kernel
theorem d_Ker_move_29 : decode b_Ker_move 29 = .ok (.iload_n 3, 1) := by decide +kernel
theorem d_Ker_move_30 : decode b_Ker_move 30 = .ok (.iconst (-1), 1) := by decide +kernel
theorem d_Ker_move_31 : decode b_Ker_move 31 = .ok (.if_icmp .ne 11, 3) := by decide +kernel
theorem d_Ker_move_34 : decode b_Ker_move 34 = .ok (.aload_n 1, 1) := by decide +kernel
theorem d_Ker_move_35 : decode b_Ker_move 35 = .ok (.bipush 7, 2) := by decide +kernel
theorem d_Ker_move_37 : decode b_Ker_move 37 = .ok (.iconst 0, 1) := by decide +kernel
theorem d_Ker_move_38 : decode b_Ker_move 38 = .ok (.invokevirtual 74, 3) := by decide +kernel
theorem d_Ker_move_41 : decode b_Ker_move 41 = .ok (.return_, 1) := by decide +kernel
theorem d_Ker_move_42 : decode b_Ker_move 42 = .ok (.iconst 0, 1) := by decide +kernel
theorem d_Ker_move_43 : decode b_Ker_move 43 = .ok (.istore 4, 2) := by decide +kernel
theorem d_Ker_move_45 : decode b_Ker_move 45 = .ok (.iload 4, 2) := by decide +kernel
theorem d_Ker_move_47 : decode b_Ker_move 47 = .ok (.iload_n 3, 1) := by decide +kernel
theorem d_Ker_move_48 : decode b_Ker_move 48 = .ok (.if_icmp .ge 64, 3) := by decide +kernel
theorem d_Ker_move_51 : decode b_Ker_move 51 = .ok (.iload 4, 2) := by decide +kernel
theorem d_Ker_move_53 : decode b_Ker_move 53 = .ok (.bipush 16, 2) := by decide +kernel
theorem d_Ker_move_55 : decode b_Ker_move 55 = .ok (.if_icmp .ge 57, 3) := by decide +kernel
theorem d_Ker_move_58 : decode b_Ker_move 58 = .ok (.aload_n 1, 1) := by decide +kernel
theorem d_Ker_move_59 : decode b_Ker_move 59 = .ok (.getfield 108, 3) := by decide +kernel
theorem d_Ker_move_62 : decode b_Ker_move 62 = .ok (.bipush 7, 2) := by decide +kernel
theorem d_Ker_move_64 : decode b_Ker_move 64 = .ok (.if_icmp .ne 24, 3) := by decide +kernel
theorem d_Ker_move_67 : decode b_Ker_move 67 = .ok (.aload_n 1, 1) := by decide +kernel
theorem d_Ker_move_68 : decode b_Ker_move 68 = .ok (.iload 4, 2) := by decide +kernel
theorem d_Ker_move_70 : decode b_Ker_move 70 = .ok (.aload_n 0, 1) := by decide +kernel
theorem d_Ker_move_71 : decode b_Ker_move 71 = .ok (.getfield 17, 3) := by decide +kernel
theorem d_Ker_move_74 : decode b_Ker_move 74 = .ok (.bipush 16, 2) := by decide +kernel
theorem d_Ker_move_76 : decode b_Ker_move 76 = .ok (.iload_n 2, 1) := by decide +kernel
theorem d_Ker_move_77 : decode b_Ker_move 77 = .ok (.imul, 1) := by decide +kernel
theorem d_Ker_move_78 : decode b_Ker_move 78 = .ok (.iload 4, 2) := by decide +kernel
theorem d_Ker_move_80 : decode b_Ker_move 80 = .ok (.iadd, 1) := by decide +kernel
theorem d_Ker_move_81 : decode b_Ker_move 81 = .ok (.iaload, 1) := by decide +kernel
theorem d_Ker_move_82 : decode b_Ker_move 82 = .ok (.invokevirtual 152, 3) := by decide +kernel
theorem d_Ker_move_85 : decode b_Ker_move 85 = .ok (.goto 21, 3) := by decide +kernel
theorem d_Ker_move_88 : decode b_Ker_move 88 = .ok (.aload_n 0, 1) := by decide +kernel
theorem d_Ker_move_89 : decode b_Ker_move 89 = .ok (.getfield 17, 3) := by decide +kernel
theorem d_Ker_move_92 : decode b_Ker_move 92 = .ok (.bipush 16, 2) := by decide +kernel
theorem d_Ker_move_94 : decode b_Ker_move 94 = .ok (.iload_n 2, 1) := by decide +kernel
theorem d_Ker_move_95 : decode b_Ker_move 95 = .ok (.imul, 1) := by decide +kernel
theorem d_Ker_move_96 : decode b_Ker_move 96 = .ok (.iload 4, 2) := by decide +kernel
theorem d_Ker_move_98 : decode b_Ker_move 98 = .ok (.iadd, 1) := by decide +kernel
theorem d_Ker_move_99 : decode b_Ker_move 99 = .ok (.aload_n 1, 1) := by decide +kernel
theorem d_Ker_move_100 : decode b_Ker_move 100 = .ok (.iload 4, 2) := by decide +kernel
theorem d_Ker_move_102 : decode b_Ker_move 102 = .ok (.invokevirtual 155, 3) := by decide +kernel
theorem d_Ker_move_105 : decode b_Ker_move 105 = .ok (.iastore, 1) := by decide +kernel
theorem d_Ker_move_106 : decode b_Ker_move 106 = .ok (.iinc 4 1, 3) := by decide +kernel
theorem d_Ker_move_109 : decode b_Ker_move 109 = .ok (.goto (-64), 3) := by decide +kernel
theorem d_Ker_move_112 : decode b_Ker_move 112 = .ok (.aload_n 1, 1) := by decide +kernel
theorem d_Ker_move_113 : decode b_Ker_move 113 = .ok (.iconst 0, 1) := by decide +kernel
theorem d_Ker_move_114 : decode b_Ker_move 114 = .ok (.invokevirtual 117, 3) := by decide +kernel
theorem d_Ker_move_117 : decode b_Ker_move 117 = .ok (.return_, 1) := by decide +kernel
theorem q_Ker_move : px_y y_Ker_move 2 := by unfold px_y; decide +kernel
set_option maxHeartbeats 4000000 in
set_option maxRecDepth 100000 in
theorem c_k_move_T (l : Launch) (D : va_G) (cs : Nat → ClassId) (hk : Nat) (kr : Nat → Nat) (pq : Nat → Option Nat) (kf : Nat → Int32) (PV : Nat → Pvs) (pz : Nat → Option Nat) (tq : Nat → Option Nat) (rq : Nat → Option Nat) (ka : Nat → Nat → Int32) (TR : Nat → Nat → Nat) (TO : Nat → Option Nat) (TF : Nat → Nat → Int32) (TA : Nat → Nat → Nat → Int32) (RR : Nat → Nat → Nat) (RM : Nat → Option Nat) (RW : Nat → Option Nat) (RF : Nat → Nat → Int32) (RA : Nat → Nat → Nat → Int32) (RC : Nat → Nat → Int32) (p0 : Int32) (ip hx : Nat) (g0 : (TF ip 21).toInt = 1) (hki : KnI pq PV pz tq rq TO TF TA RW RF) (hro : RoI ka) (hrm : RmI rq RM) (hip : ip < 13) (hcu : CuT pq PV tq TO ip hx) : MgV l y_Ker_move b_Ker_move 5 D cs 6 240 ((5 * ndS 13 tq + 4 * ndS 13 rq + ndS 13 RM)) ((9804 * ndS 13 tq + 342 * ndS 13 rq + 36864 * ndS 13 RM)) [.ref hk, .ref hx, .int p0] [wd_Ker cs hk kr (fun _ => none) kf ka (gKe pq pz tq rq), fm 13 (fTx cs tq TR TO TF TA), fm 13 (fRw cs rq RR RM RW RF RA RC), fm 8 (fPp cs pq PV)] (fun _ => True) (fun ps => ∃ (pz' : Nat → Option Nat) (tq' : Nat → Option Nat) (rq' : Nat → Option Nat) (ka' : Nat → Nat → Int32) (TR' : Nat → Nat → Nat) (TO' : Nat → Option Nat) (TF' : Nat → Nat → Int32) (TA' : Nat → Nat → Nat → Int32) (RR' : Nat → Nat → Nat) (RM' : Nat → Option Nat) (RW' : Nat → Option Nat) (RF' : Nat → Nat → Int32) (RA' : Nat → Nat → Nat → Int32) (RC' : Nat → Nat → Int32), (ps.1 = [wd_Ker cs hk kr (fun _ => none) kf ka' (gKe pq pz' tq' rq'), fm 13 (fTx cs tq' TR' TO' TF' TA'), fm 13 (fRw cs rq' RR' RM' RW' RF' RA' RC'), fm 8 (fPp cs pq PV)]) ∧ (CuT pq PV tq' TO' ip hx) ∧ (KnI pq PV pz' tq' rq' TO' TF' TA' RW' RF') ∧ (RoI ka') ∧ (RmI rq' RM') ∧ (ps.2.1 + (5 * ndS 13 tq' + 4 * ndS 13 rq' + ndS 13 RM') ≤ 5 * ndS 13 tq + 4 * ndS 13 rq + ndS 13 RM) ∧ (ps.2.2 + (9804 * ndS 13 tq' + 342 * ndS 13 rq' + 36864 * ndS 13 RM') ≤ 9804 * ndS 13 tq + 342 * ndS 13 rq + 36864 * ndS 13 RM)) := by
  refine pg_enter (by decide) (Nat.le_of_ble_eq_true rfl) ?_
  intro p e s m below meth c A ls hAe S hr hlk hnm hA hT hX hw hl
  have hl : lv_has ls 5 [(0, .ref hk), (1, .ref hx), (2, .int p0)] := hl
  have lp0 := Int32.le_toInt p0
  have up0 := Int32.toInt_lt p0
  have cstm1 : ((-1) : Int32).toInt = (-1) := rfl
  have cst0 : (0 : Int32).toInt = 0 := rfl
  have cst2 : (2 : Int32).toInt = 2 := rfl
  have cst7 : (7 : Int32).toInt = 7 := rfl
  have cst8 : (8 : Int32).toInt = 8 := rfl
  have cst16 : (16 : Int32).toInt = 16 := rfl
  have J45 : ∀ (n_45 : Nat) (ce_45 sl_45 : Nat) (pz_45 : Nat → Option Nat) (tq_45 : Nat → Option Nat) (rq_45 : Nat → Option Nat) (ka_45 : Nat → Nat → Int32) (TR_45 : Nat → Nat → Nat) (TO_45 : Nat → Option Nat) (TF_45 : Nat → Nat → Int32) (TA_45 : Nat → Nat → Nat → Int32) (RR_45 : Nat → Nat → Nat) (RM_45 : Nat → Option Nat) (RW_45 : Nat → Option Nat) (RF_45 : Nat → Nat → Int32) (RA_45 : Nat → Nat → Nat → Int32) (RC_45 : Nat → Nat → Int32) (x45_3 x45_4 : Int32) (H : Heap) (locs : List Loc) (ls : Array Slot), (KnI pq PV pz_45 tq_45 rq_45 TO_45 TF_45 TA_45 RW_45 RF_45) → (RoI ka_45) → (RmI rq_45 RM_45) → (CuT pq PV tq_45 TO_45 ip hx) → (0 ≤ x45_4.toInt) → (x45_4.toInt ≤ 16) → (x45_3.toInt ≤ 16) → (0 ≤ p0.toInt) → (p0.toInt ≤ 7) → (ce_45 + (5 * ndS 13 tq_45 + 4 * ndS 13 rq_45 + ndS 13 RM_45) ≤ 5 * ndS 13 tq + 4 * ndS 13 rq + ndS 13 RM) → (sl_45 + (9804 * ndS 13 tq_45 + 342 * ndS 13 rq_45 + 36864 * ndS 13 RM_45) ≤ 9804 * ndS 13 tq + 342 * ndS 13 rq + 36864 * ndS 13 RM) → x45_3.toInt - x45_4.toInt + 4294967297 < (n_45 : Int) → pw D A s.heap H locs [wd_Ker cs hk kr (fun _ => none) kf ka_45 (gKe pq pz_45 tq_45 rq_45), fm 13 (fTx cs tq_45 TR_45 TO_45 TF_45 TA_45), fm 13 (fRw cs rq_45 RR_45 RM_45 RW_45 RF_45 RA_45 RC_45), fm 8 (fPp cs pq PV)] → lv_has ls 5 [(0, .ref hk), (1, .ref hx), (2, .int p0), (3, .int x45_3), (4, .int x45_4)] → W p l e { frames := 6, cells := (5 * ndS 13 tq + 4 * ndS 13 rq + ndS 13 RM), slots := (9804 * ndS 13 tq + 342 * ndS 13 rq + 36864 * ndS 13 RM), locals := 240 } s m [.ref hk, .ref hx, .int p0].toArray below meth c H locs ce_45 sl_45 (MQ below (va_Qv (fun ps => ∃ (pz' : Nat → Option Nat) (tq' : Nat → Option Nat) (rq' : Nat → Option Nat) (ka' : Nat → Nat → Int32) (TR' : Nat → Nat → Nat) (TO' : Nat → Option Nat) (TF' : Nat → Nat → Int32) (TA' : Nat → Nat → Nat → Int32) (RR' : Nat → Nat → Nat) (RM' : Nat → Option Nat) (RW' : Nat → Option Nat) (RF' : Nat → Nat → Int32) (RA' : Nat → Nat → Nat → Int32) (RC' : Nat → Nat → Int32), (ps.1 = [wd_Ker cs hk kr (fun _ => none) kf ka' (gKe pq pz' tq' rq'), fm 13 (fTx cs tq' TR' TO' TF' TA'), fm 13 (fRw cs rq' RR' RM' RW' RF' RA' RC'), fm 8 (fPp cs pq PV)]) ∧ (CuT pq PV tq' TO' ip hx) ∧ (KnI pq PV pz' tq' rq' TO' TF' TA' RW' RF') ∧ (RoI ka') ∧ (RmI rq' RM') ∧ (ps.2.1 + (5 * ndS 13 tq' + 4 * ndS 13 rq' + ndS 13 RM') ≤ 5 * ndS 13 tq + 4 * ndS 13 rq + ndS 13 RM) ∧ (ps.2.2 + (9804 * ndS 13 tq' + 342 * ndS 13 rq' + 36864 * ndS 13 RM') ≤ 9804 * ndS 13 tq + 342 * ndS 13 rq + 36864 * ndS 13 RM)) (pg_B D (va_A ([wd_Ker cs hk kr (fun _ => none) kf ka (gKe pq pz tq rq), fm 13 (fTx cs tq TR TO TF TA), fm 13 (fRw cs rq RR RM RW RF RA RC), fm 8 (fPp cs pq PV)] : List va_W).flatten s.heap.size) s.heap.size (tot s.heap)) (va_A ([wd_Ker cs hk kr (fun _ => none) kf ka (gKe pq pz tq rq), fm 13 (fTx cs tq TR TO TF TA), fm 13 (fRw cs rq RR RM RW RF RA RC), fm 8 (fPp cs pq PV)] : List va_W).flatten s.heap.size)) [.ref hk, .ref hx, .int p0].toArray s (5 * ndS 13 tq + 4 * ndS 13 rq + ndS 13 RM) (9804 * ndS 13 tq + 342 * ndS 13 rq + 36864 * ndS 13 RM) A) (F0 m 45 ls []) := by
    intro  n_45
    induction n_45 with
    | zero =>
      intro ce_45 sl_45 pz_45 tq_45 rq_45 ka_45 TR_45 TO_45 TF_45 TA_45 RR_45 RM_45 RW_45 RF_45 RA_45 RC_45 x45_3 x45_4 H locs ls k45_0 k45_1 k45_2 k45_3 k45_4 k45_5 k45_6 k45_7 k45_8 k45_9 k45_10 hm hw hl
      have lx45_3 := Int32.le_toInt x45_3
      have ux45_3 := Int32.toInt_lt x45_3
      have lx45_4 := Int32.le_toInt x45_4
      have ux45_4 := Int32.toInt_lt x45_4
      have hki := k45_0
      have hro := k45_1
      have hrm := k45_2
      obtain ⟨j1, hp1, hj1, hjq1, hto1, hf01⟩ := k45_3.2
      exact absurd hm (by omega)
    | succ n_45 ih45 =>
      intro ce_45 sl_45 pz_45 tq_45 rq_45 ka_45 TR_45 TO_45 TF_45 TA_45 RR_45 RM_45 RW_45 RF_45 RA_45 RC_45 x45_3 x45_4 H locs ls k45_0 k45_1 k45_2 k45_3 k45_4 k45_5 k45_6 k45_7 k45_8 k45_9 k45_10 hm hw hl
      have lx45_3 := Int32.le_toInt x45_3
      have ux45_3 := Int32.toInt_lt x45_3
      have lx45_4 := Int32.le_toInt x45_4
      have ux45_4 := Int32.toInt_lt x45_4
      have hki := k45_0
      have hro := k45_1
      have hrm := k45_2
      obtain ⟨j2, hp2, hj2, hjq2, hto2, hf02⟩ := k45_3.2
      refine lv_iload S.x S.b d_Ker_move_45 (lv_at hl 4 rfl) ?_
      refine lv_iload_n S.x S.b d_Ker_move_47 rfl (lv_at hl 3 rfl) ?_
      refine lv_icmp_ge (tgt := 112) S.x S.b d_Ker_move_48 (by decide) (fun c3 => ?_) (fun c3 => ?_)
      · have nc3 : x45_3.toInt ≤ x45_4.toInt := (i_le (x := x45_3) (y := x45_4)).mp c3
        refine lv_aload_n S.x S.b d_Ker_move_112 rfl (lv_at hl 1 rfl) ?_
        refine lv_iconst (v := 0) S.x S.b d_Ker_move_113 (by decide) ?_
        have hw : pw D A s.heap _ _ [wd_Ker cs hk kr (fun _ => none) kf ka_45 (gKe pq pz_45 tq_45 rq_45), fm 13 (fRw cs rq_45 RR_45 RM_45 RW_45 RF_45 RA_45 RC_45), fm 8 (fPp cs pq PV), fm 13 (fTx cs tq_45 TR_45 TO_45 TF_45 TA_45)] := hw.sub [0, 2, 3, 1] rfl rfl
        have hw : pw D A s.heap _ _ [wd_Ker cs hk kr (fun _ => none) kf ka_45 (gKe pq pz_45 tq_45 rq_45), fm 13 (fRw cs rq_45 RR_45 RM_45 RW_45 RF_45 RA_45 RC_45), fm 8 (fPp cs pq PV), fo 13 (fTx cs tq_45 TR_45 TO_45 TF_45 TA_45) ip, wd_Txp cs hx (TR_45 ip) (fun k => if k = 3 then (some hp2) else none) (TF_45 ip) (TA_45 ip) (fun _ _ => none)] := ftx_out (pr := [wd_Ker cs hk kr (fun _ => none) kf ka_45 (gKe pq pz_45 tq_45 rq_45), fm 13 (fRw cs rq_45 RR_45 RM_45 RW_45 RF_45 RA_45 RC_45), fm 8 (fPp cs pq PV)]) hw hip k45_3.1 hto2
        have htn5 : TxN ip (TF_45 ip) (TA_45 ip) := hki.2.1 ip hip _ k45_3.1
        obtain ⟨lk, ⟨i2, i3⟩, ⟨i4, i5⟩, ⟨i6, i7⟩, i8, ⟨i9, i11⟩, i10, hrt⟩ := htn5.1
        have hid5 := htn5.2.1
        have hch5 := htn5.2.2
        unfold KcI at hch5
        refine px_callv (pr := [wd_Ker cs hk kr (fun _ => none) kf ka_45 (gKe pq pz_45 tq_45 rq_45), fm 13 (fRw cs rq_45 RR_45 RM_45 RW_45 RF_45 RA_45 RC_45), fm 8 (fPp cs pq PV), fo 13 (fTx cs tq_45 TR_45 TO_45 TF_45 TA_45) ip]) (px_runA (As := [.int 0]) (rest := []) S (c_Txp_answer l D cs hx (TR_45 ip) (fun _ _ => none) hp2 (TF_45 ip) (TA_45 ip) 0  (show TxOk ((TF_45 ip) 4) ((TF_45 ip) 5) ((TF_45 ip) 8) ((TF_45 ip) 9) ((TF_45 ip) 17) 0 ((TA_45 ip) 2) from ⟨(by first | exact lk | exact lk_eq lk (by omega) | exact lk_mk (by omega)), ⟨by omega, by omega⟩, ⟨by omega, by omega⟩, ⟨by omega, by omega⟩, by omega, ⟨by decide, by decide⟩, (by show _ + _ + (0 : Int) ≤ 100; omega), hrt⟩) _) hT (pr := [wd_Ker cs hk kr (fun _ => none) kf ka_45 (gKe pq pz_45 tq_45 rq_45), fm 13 (fRw cs rq_45 RR_45 RM_45 RW_45 RF_45 RA_45 RC_45), fm 8 (fPp cs pq PV), fo 13 (fTx cs tq_45 TR_45 TO_45 TF_45 TA_45) ip]) (pcs := [wd_Txp cs hx (TR_45 ip) (fun k => if k = 3 then (some hp2) else none) (TF_45 ip) (TA_45 ip) (fun _ _ => none)]) hw px_X.tt (C := "HomeSystem$TextProcess") (owner := "HomeSystem$AnyProcess") (x := ⟨"HomeSystem$AnyProcess", "answer", "(I)V"⟩) (px_recv hT hw 4 0 rfl rfl rfl) m8_75 m8_67 m8_69 m8_74 m8_73 m1_35 m8_68n ⟨by decide, by decide⟩ rfl q_Txp_answer ⟨Nat.le_of_ble_eq_true rfl, Nat.le_of_ble_eq_true rfl⟩ hl.1 rfl (Nat.le_of_ble_eq_true rfl) d_Ker_move_114 ⟨show ce_45 + 0 ≤ (5 * ndS 13 tq + 4 * ndS 13 rq + ndS 13 RM) from (by first | exact oz_3e0efcc333 k45_9 | omega), show sl_45 + 0 ≤ (9804 * ndS 13 tq + 342 * ndS 13 rq + 36864 * ndS 13 RM) from (by first | exact oz_93e1379802 k45_10 | omega)⟩) hw hA (fun p10 H locs hp10 hw => ?_)
        obtain ⟨f8, a9, rfl, e12, e13, e14, e15, e16, e17⟩ := hp10
        have e12 : TxOk (f8 4) (f8 5) (f8 8) (f8 9) (f8 17) (f8 21) (a9 2) := e12
        obtain ⟨lk, ⟨i2, i3⟩, ⟨i4, i5⟩, ⟨i6, i7⟩, i8, ⟨i9, i11⟩, i10, hrt⟩ := e12
        have e13 : (f8 9).toInt = ((TF_45 ip) 9).toInt := e13
        have e14 : (f8 17).toInt = ((TF_45 ip) 17).toInt := e14
        have e15 : (f8 21).toInt = 0 := e15
        have e16 : (f8 15).toInt = ((TF_45 ip) 15).toInt := e16
        have e17 : (f8 20).toInt = ((TF_45 ip) 20).toInt := e17
        have hw : pw D A s.heap H locs [wd_Ker cs hk kr (fun _ => none) kf ka_45 (gKe pq pz_45 tq_45 rq_45), fm 13 (fRw cs rq_45 RR_45 RM_45 RW_45 RF_45 RA_45 RC_45), fm 8 (fPp cs pq PV), fo 13 (fTx cs tq_45 TR_45 TO_45 TF_45 TA_45) ip, wd_Txp cs hx (TR_45 ip) (fun k => if k = 3 then (some hp2) else none) f8 a9 (fun _ _ => none)] := hw
        have hw := ftx_in0 (pr := [wd_Ker cs hk kr (fun _ => none) kf ka_45 (gKe pq pz_45 tq_45 rq_45), fm 13 (fRw cs rq_45 RR_45 RM_45 RW_45 RF_45 RA_45 RC_45), fm 8 (fPp cs pq PV)]) hw hip k45_3.1 hto2
        obtain ⟨TF18, hu_TF18⟩ : ∃ y : Nat → Nat → Int32, y = va_up TF_45 ip f8 := ⟨_, rfl⟩
        obtain ⟨TA19, hu_TA19⟩ : ∃ y : Nat → Nat → Nat → Int32, y = va_up TA_45 ip a9 := ⟨_, rfl⟩
        have hw : pw D A s.heap _ _ [wd_Ker cs hk kr (fun _ => none) kf ka_45 (gKe pq pz_45 tq_45 rq_45), fm 13 (fRw cs rq_45 RR_45 RM_45 RW_45 RF_45 RA_45 RC_45), fm 8 (fPp cs pq PV), fm 13 (fTx cs tq_45 TR_45 TO_45 TF18 TA19)] := (by rw [hu_TF18, hu_TA19]; exact hw)
        have hki : KnI pq PV pz_45 tq_45 rq_45 TO_45 TF18 TA19 RW_45 RF_45 := (by rw [hu_TF18, hu_TA19]; exact hki.upT (show TxN ip f8 a9 from ⟨(show TxOk (f8 4) (f8 5) (f8 8) (f8 9) (f8 17) (f8 21) (a9 2) from ⟨(by first | exact lk | exact lk_eq lk (by omega) | exact lk_mk (by omega)), ⟨by omega, by omega⟩, ⟨by omega, by omega⟩, ⟨by omega, by omega⟩, by omega, ⟨by omega, by omega⟩, by omega, hrt⟩), (show ((f8 15).toInt) = ((ip : Nat) : Int) from by omega), (show 0 ≤ (f8 20).toInt ∧ (f8 20).toInt ≤ 3 ∧ ((f8 20).toInt = 0 ∨ 3 * ((ip : Nat) : Int) + (f8 20).toInt ≤ 12) from by omega)⟩))
        have hz21_TF18 : (TF18 ip 21).toInt = (f8 21).toInt := (by rw [hu_TF18, va_up_s]; try rfl)
        have hw : pw D A s.heap _ _ [wd_Ker cs hk kr (fun _ => none) kf ka_45 (gKe pq pz_45 tq_45 rq_45), fm 13 (fTx cs tq_45 TR_45 TO_45 TF18 TA19), fm 13 (fRw cs rq_45 RR_45 RM_45 RW_45 RF_45 RA_45 RC_45), fm 8 (fPp cs pq PV)] := hw.sub [0, 3, 1, 2] rfl rfl
        exact pg_vret S hr hlk hAe hw (show ce_45 ≤ (5 * ndS 13 tq + 4 * ndS 13 rq + ndS 13 RM) from by first | exact oz_dca5c4e7e4 k45_9 | omega) (show sl_45 ≤ (9804 * ndS 13 tq + 342 * ndS 13 rq + 36864 * ndS 13 RM) from by first | exact oz_f7eb847e67 k45_10 | omega) (⟨pz_45, tq_45, rq_45, ka_45, TR_45, TO_45, TF18, TA19, RR_45, RM_45, RW_45, RF_45, RA_45, RC_45, rfl, (show CuT pq PV tq_45 TO_45 ip hx from k45_3), (show KnI pq PV pz_45 tq_45 rq_45 TO_45 TF18 TA19 RW_45 RF_45 from hki), (show RoI ka_45 from hro), (show RmI rq_45 RM_45 from hrm), (show ce_45 + (5 * ndS 13 tq_45 + 4 * ndS 13 rq_45 + ndS 13 RM_45) ≤ 5 * ndS 13 tq + 4 * ndS 13 rq + ndS 13 RM from by first | exact k45_9 | omega), (show sl_45 + (9804 * ndS 13 tq_45 + 342 * ndS 13 rq_45 + 36864 * ndS 13 RM_45) ≤ 9804 * ndS 13 tq + 342 * ndS 13 rq + 36864 * ndS 13 RM from by first | exact k45_10 | omega)⟩) d_Ker_move_117
      · have nc3 : ¬ x45_3.toInt ≤ x45_4.toInt := mt (i_le (x := x45_3) (y := x45_4)).mpr c3
        refine lv_iload S.x S.b d_Ker_move_51 (lv_at hl 4 rfl) ?_
        refine lv_bipush (v := 16) S.x S.b d_Ker_move_53 (by decide) ?_
        refine lv_icmp_ge (tgt := 112) S.x S.b d_Ker_move_55 (by decide) (fun c20 => ?_) (fun c20 => ?_)
        · have nc20 : (16 : Int) ≤ x45_4.toInt := (i_le (x := 16) (y := x45_4)).mp c20
          refine lv_aload_n S.x S.b d_Ker_move_112 rfl (lv_at hl 1 rfl) ?_
          refine lv_iconst (v := 0) S.x S.b d_Ker_move_113 (by decide) ?_
          have hw : pw D A s.heap _ _ [wd_Ker cs hk kr (fun _ => none) kf ka_45 (gKe pq pz_45 tq_45 rq_45), fm 13 (fRw cs rq_45 RR_45 RM_45 RW_45 RF_45 RA_45 RC_45), fm 8 (fPp cs pq PV), fm 13 (fTx cs tq_45 TR_45 TO_45 TF_45 TA_45)] := hw.sub [0, 2, 3, 1] rfl rfl
          have hw : pw D A s.heap _ _ [wd_Ker cs hk kr (fun _ => none) kf ka_45 (gKe pq pz_45 tq_45 rq_45), fm 13 (fRw cs rq_45 RR_45 RM_45 RW_45 RF_45 RA_45 RC_45), fm 8 (fPp cs pq PV), fo 13 (fTx cs tq_45 TR_45 TO_45 TF_45 TA_45) ip, wd_Txp cs hx (TR_45 ip) (fun k => if k = 3 then (some hp2) else none) (TF_45 ip) (TA_45 ip) (fun _ _ => none)] := ftx_out (pr := [wd_Ker cs hk kr (fun _ => none) kf ka_45 (gKe pq pz_45 tq_45 rq_45), fm 13 (fRw cs rq_45 RR_45 RM_45 RW_45 RF_45 RA_45 RC_45), fm 8 (fPp cs pq PV)]) hw hip k45_3.1 hto2
          have htn22 : TxN ip (TF_45 ip) (TA_45 ip) := hki.2.1 ip hip _ k45_3.1
          obtain ⟨lk, ⟨i2, i3⟩, ⟨i4, i5⟩, ⟨i6, i7⟩, i8, ⟨i9, i11⟩, i10, hrt⟩ := htn22.1
          have hid22 := htn22.2.1
          have hch22 := htn22.2.2
          unfold KcI at hch22
          refine px_callv (pr := [wd_Ker cs hk kr (fun _ => none) kf ka_45 (gKe pq pz_45 tq_45 rq_45), fm 13 (fRw cs rq_45 RR_45 RM_45 RW_45 RF_45 RA_45 RC_45), fm 8 (fPp cs pq PV), fo 13 (fTx cs tq_45 TR_45 TO_45 TF_45 TA_45) ip]) (px_runA (As := [.int 0]) (rest := []) S (c_Txp_answer l D cs hx (TR_45 ip) (fun _ _ => none) hp2 (TF_45 ip) (TA_45 ip) 0  (show TxOk ((TF_45 ip) 4) ((TF_45 ip) 5) ((TF_45 ip) 8) ((TF_45 ip) 9) ((TF_45 ip) 17) 0 ((TA_45 ip) 2) from ⟨(by first | exact lk | exact lk_eq lk (by omega) | exact lk_mk (by omega)), ⟨by omega, by omega⟩, ⟨by omega, by omega⟩, ⟨by omega, by omega⟩, by omega, ⟨by decide, by decide⟩, (by show _ + _ + (0 : Int) ≤ 100; omega), hrt⟩) _) hT (pr := [wd_Ker cs hk kr (fun _ => none) kf ka_45 (gKe pq pz_45 tq_45 rq_45), fm 13 (fRw cs rq_45 RR_45 RM_45 RW_45 RF_45 RA_45 RC_45), fm 8 (fPp cs pq PV), fo 13 (fTx cs tq_45 TR_45 TO_45 TF_45 TA_45) ip]) (pcs := [wd_Txp cs hx (TR_45 ip) (fun k => if k = 3 then (some hp2) else none) (TF_45 ip) (TA_45 ip) (fun _ _ => none)]) hw px_X.tt (C := "HomeSystem$TextProcess") (owner := "HomeSystem$AnyProcess") (x := ⟨"HomeSystem$AnyProcess", "answer", "(I)V"⟩) (px_recv hT hw 4 0 rfl rfl rfl) m8_75 m8_67 m8_69 m8_74 m8_73 m1_35 m8_68n ⟨by decide, by decide⟩ rfl q_Txp_answer ⟨Nat.le_of_ble_eq_true rfl, Nat.le_of_ble_eq_true rfl⟩ hl.1 rfl (Nat.le_of_ble_eq_true rfl) d_Ker_move_114 ⟨show ce_45 + 0 ≤ (5 * ndS 13 tq + 4 * ndS 13 rq + ndS 13 RM) from (by first | exact oz_3e0efcc333 k45_9 | omega), show sl_45 + 0 ≤ (9804 * ndS 13 tq + 342 * ndS 13 rq + 36864 * ndS 13 RM) from (by first | exact oz_93e1379802 k45_10 | omega)⟩) hw hA (fun p27 H locs hp27 hw => ?_)
          obtain ⟨f25, a26, rfl, e29, e30, e31, e32, e33, e34⟩ := hp27
          have e29 : TxOk (f25 4) (f25 5) (f25 8) (f25 9) (f25 17) (f25 21) (a26 2) := e29
          obtain ⟨lk, ⟨i2, i3⟩, ⟨i4, i5⟩, ⟨i6, i7⟩, i8, ⟨i9, i11⟩, i10, hrt⟩ := e29
          have e30 : (f25 9).toInt = ((TF_45 ip) 9).toInt := e30
          have e31 : (f25 17).toInt = ((TF_45 ip) 17).toInt := e31
          have e32 : (f25 21).toInt = 0 := e32
          have e33 : (f25 15).toInt = ((TF_45 ip) 15).toInt := e33
          have e34 : (f25 20).toInt = ((TF_45 ip) 20).toInt := e34
          have hw : pw D A s.heap H locs [wd_Ker cs hk kr (fun _ => none) kf ka_45 (gKe pq pz_45 tq_45 rq_45), fm 13 (fRw cs rq_45 RR_45 RM_45 RW_45 RF_45 RA_45 RC_45), fm 8 (fPp cs pq PV), fo 13 (fTx cs tq_45 TR_45 TO_45 TF_45 TA_45) ip, wd_Txp cs hx (TR_45 ip) (fun k => if k = 3 then (some hp2) else none) f25 a26 (fun _ _ => none)] := hw
          have hw := ftx_in0 (pr := [wd_Ker cs hk kr (fun _ => none) kf ka_45 (gKe pq pz_45 tq_45 rq_45), fm 13 (fRw cs rq_45 RR_45 RM_45 RW_45 RF_45 RA_45 RC_45), fm 8 (fPp cs pq PV)]) hw hip k45_3.1 hto2
          obtain ⟨TF35, hu_TF35⟩ : ∃ y : Nat → Nat → Int32, y = va_up TF_45 ip f25 := ⟨_, rfl⟩
          obtain ⟨TA36, hu_TA36⟩ : ∃ y : Nat → Nat → Nat → Int32, y = va_up TA_45 ip a26 := ⟨_, rfl⟩
          have hw : pw D A s.heap _ _ [wd_Ker cs hk kr (fun _ => none) kf ka_45 (gKe pq pz_45 tq_45 rq_45), fm 13 (fRw cs rq_45 RR_45 RM_45 RW_45 RF_45 RA_45 RC_45), fm 8 (fPp cs pq PV), fm 13 (fTx cs tq_45 TR_45 TO_45 TF35 TA36)] := (by rw [hu_TF35, hu_TA36]; exact hw)
          have hki : KnI pq PV pz_45 tq_45 rq_45 TO_45 TF35 TA36 RW_45 RF_45 := (by rw [hu_TF35, hu_TA36]; exact hki.upT (show TxN ip f25 a26 from ⟨(show TxOk (f25 4) (f25 5) (f25 8) (f25 9) (f25 17) (f25 21) (a26 2) from ⟨(by first | exact lk | exact lk_eq lk (by omega) | exact lk_mk (by omega)), ⟨by omega, by omega⟩, ⟨by omega, by omega⟩, ⟨by omega, by omega⟩, by omega, ⟨by omega, by omega⟩, by omega, hrt⟩), (show ((f25 15).toInt) = ((ip : Nat) : Int) from by omega), (show 0 ≤ (f25 20).toInt ∧ (f25 20).toInt ≤ 3 ∧ ((f25 20).toInt = 0 ∨ 3 * ((ip : Nat) : Int) + (f25 20).toInt ≤ 12) from by omega)⟩))
          have hz21_TF35 : (TF35 ip 21).toInt = (f25 21).toInt := (by rw [hu_TF35, va_up_s]; try rfl)
          have hw : pw D A s.heap _ _ [wd_Ker cs hk kr (fun _ => none) kf ka_45 (gKe pq pz_45 tq_45 rq_45), fm 13 (fTx cs tq_45 TR_45 TO_45 TF35 TA36), fm 13 (fRw cs rq_45 RR_45 RM_45 RW_45 RF_45 RA_45 RC_45), fm 8 (fPp cs pq PV)] := hw.sub [0, 3, 1, 2] rfl rfl
          exact pg_vret S hr hlk hAe hw (show ce_45 ≤ (5 * ndS 13 tq + 4 * ndS 13 rq + ndS 13 RM) from by first | exact oz_dca5c4e7e4 k45_9 | omega) (show sl_45 ≤ (9804 * ndS 13 tq + 342 * ndS 13 rq + 36864 * ndS 13 RM) from by first | exact oz_f7eb847e67 k45_10 | omega) (⟨pz_45, tq_45, rq_45, ka_45, TR_45, TO_45, TF35, TA36, RR_45, RM_45, RW_45, RF_45, RA_45, RC_45, rfl, (show CuT pq PV tq_45 TO_45 ip hx from k45_3), (show KnI pq PV pz_45 tq_45 rq_45 TO_45 TF35 TA36 RW_45 RF_45 from hki), (show RoI ka_45 from hro), (show RmI rq_45 RM_45 from hrm), (show ce_45 + (5 * ndS 13 tq_45 + 4 * ndS 13 rq_45 + ndS 13 RM_45) ≤ 5 * ndS 13 tq + 4 * ndS 13 rq + ndS 13 RM from by first | exact k45_9 | omega), (show sl_45 + (9804 * ndS 13 tq_45 + 342 * ndS 13 rq_45 + 36864 * ndS 13 RM_45) ≤ 9804 * ndS 13 tq + 342 * ndS 13 rq + 36864 * ndS 13 RM from by first | exact k45_10 | omega)⟩) d_Ker_move_117
        · have nc20 : ¬ (16 : Int) ≤ x45_4.toInt := mt (i_le (x := 16) (y := x45_4)).mpr c20
          refine lv_aload_n S.x S.b d_Ker_move_58 rfl (lv_at hl 1 rfl) ?_
          have hw : pw D A s.heap _ _ [wd_Ker cs hk kr (fun _ => none) kf ka_45 (gKe pq pz_45 tq_45 rq_45), fm 13 (fRw cs rq_45 RR_45 RM_45 RW_45 RF_45 RA_45 RC_45), fm 8 (fPp cs pq PV), fm 13 (fTx cs tq_45 TR_45 TO_45 TF_45 TA_45)] := hw.sub [0, 2, 3, 1] rfl rfl
          have hw : pw D A s.heap _ _ [wd_Ker cs hk kr (fun _ => none) kf ka_45 (gKe pq pz_45 tq_45 rq_45), fm 13 (fRw cs rq_45 RR_45 RM_45 RW_45 RF_45 RA_45 RC_45), fm 8 (fPp cs pq PV), fo 13 (fTx cs tq_45 TR_45 TO_45 TF_45 TA_45) ip, wd_Txp cs hx (TR_45 ip) (fun k => if k = 3 then (some hp2) else none) (TF_45 ip) (TA_45 ip) (fun _ _ => none)] := ftx_out (pr := [wd_Ker cs hk kr (fun _ => none) kf ka_45 (gKe pq pz_45 tq_45 rq_45), fm 13 (fRw cs rq_45 RR_45 RM_45 RW_45 RF_45 RA_45 RC_45), fm 8 (fPp cs pq PV)]) hw hip k45_3.1 hto2
          have htn37 : TxN ip (TF_45 ip) (TA_45 ip) := hki.2.1 ip hip _ k45_3.1
          obtain ⟨lk, ⟨i2, i3⟩, ⟨i4, i5⟩, ⟨i6, i7⟩, i8, ⟨i9, i11⟩, i10, hrt⟩ := htn37.1
          have hid37 := htn37.2.1
          have hch37 := htn37.2.2
          unfold KcI at hch37
          refine px_get S k_Txp hT hw 4 0 22 (v := .int ((TF_45 ip) 22)) rfl rfl rfl (by decide) m6_158 d_Ker_move_59 ?_
          refine lv_bipush (v := 7) S.x S.b d_Ker_move_62 (by decide) ?_
          refine lv_icmp_ne (tgt := 88) S.x S.b d_Ker_move_64 (by decide) (fun c38 => ?_) (fun c38 => ?_)
          · have nc38 : ¬ ((TF_45 ip) 22).toInt = (7 : Int) := mt (i_eq (x := ((TF_45 ip) 22)) (y := 7)).mpr c38
            refine lv_aload_n S.x S.b d_Ker_move_88 rfl (lv_at hl 0 rfl) ?_
            refine px_get S k_Ker hT hw 0 0 1 (v := .ref (kr 1)) rfl rfl rfl (by decide) m2_220 d_Ker_move_89 ?_
            refine lv_bipush (v := 16) S.x S.b d_Ker_move_92 (by decide) ?_
            refine lv_iload_n S.x S.b d_Ker_move_94 rfl (lv_at hl 2 rfl) ?_
            refine lv_imul S.x S.b d_Ker_move_95 ?_
            refine lv_topi (fun z40 ez40 => ?_)
            have lz40 := Int32.le_toInt z40
            have uz40 := Int32.toInt_lt z40
            have tz40 : -2147483648 ≤ 16 * p0.toInt → 16 * p0.toInt < 2147483648 → z40.toInt = 16 * p0.toInt := by rw [ez40]; exact i_mulc 16 p0 (by decide)
            try replace tz40 : z40.toInt = 16 * p0.toInt := by omega
            refine lv_iload S.x S.b d_Ker_move_96 (lv_at hl 4 rfl) ?_
            refine lv_iadd S.x S.b d_Ker_move_98 ?_
            refine lv_topi (fun z41 ez41 => ?_)
            have tz41 : z41.toInt = (z40.toInt + x45_4.toInt + 2147483648) % 4294967296 - 2147483648 := by rw [ez41]; exact i_add z40 x45_4
            have lz41 := Int32.le_toInt z41
            have uz41 := Int32.toInt_lt z41
            try replace tz41 : z41.toInt = z40.toInt + x45_4.toInt := by omega
            refine lv_aload_n S.x S.b d_Ker_move_99 rfl (lv_at hl 1 rfl) ?_
            refine lv_iload S.x S.b d_Ker_move_100 (lv_at hl 4 rfl) ?_
            refine px_calli (pr := [wd_Ker cs hk kr (fun _ => none) kf ka_45 (gKe pq pz_45 tq_45 rq_45), fm 13 (fRw cs rq_45 RR_45 RM_45 RW_45 RF_45 RA_45 RC_45), fm 8 (fPp cs pq PV), fo 13 (fTx cs tq_45 TR_45 TO_45 TF_45 TA_45) ip]) (px_runA (As := [.int x45_4]) (rest := [.int z41, .ref (kr 1)]) S (c_Txp_wordToMove l D cs hx (TR_45 ip) (fun _ _ => none) hp2 (TF_45 ip) (TA_45 ip) x45_4  (show TxOk ((TF_45 ip) 4) ((TF_45 ip) 5) ((TF_45 ip) 8) ((TF_45 ip) 9) ((TF_45 ip) 17) ((TF_45 ip) 21) ((TA_45 ip) 2) from ⟨(by first | exact lk | exact lk_eq lk (by omega) | exact lk_mk (by omega)), ⟨by omega, by omega⟩, ⟨by omega, by omega⟩, ⟨by omega, by omega⟩, by omega, ⟨by omega, by omega⟩, by omega, hrt⟩) _) hT (pr := [wd_Ker cs hk kr (fun _ => none) kf ka_45 (gKe pq pz_45 tq_45 rq_45), fm 13 (fRw cs rq_45 RR_45 RM_45 RW_45 RF_45 RA_45 RC_45), fm 8 (fPp cs pq PV), fo 13 (fTx cs tq_45 TR_45 TO_45 TF_45 TA_45) ip]) (pcs := [wd_Txp cs hx (TR_45 ip) (fun k => if k = 3 then (some hp2) else none) (TF_45 ip) (TA_45 ip) (fun _ _ => none)]) hw px_X.tt (C := "HomeSystem$TextProcess") (owner := "HomeSystem$AnyProcess") (x := ⟨"HomeSystem$AnyProcess", "wordToMove", "(I)I"⟩) (px_recv hT hw 4 0 rfl rfl rfl) m8_142 m8_130 m8_132 m8_141 m8_140 m1_35 m8_131n ⟨by decide, by decide⟩ rfl q_Txp_wordToMove ⟨Nat.le_of_ble_eq_true rfl, Nat.le_of_ble_eq_true rfl⟩ hl.1 rfl (Nat.le_of_ble_eq_true rfl) d_Ker_move_102 ⟨show ce_45 + 0 ≤ (5 * ndS 13 tq + 4 * ndS 13 rq + ndS 13 RM) from (by first | exact oz_3e0efcc333 k45_9 | omega), show sl_45 + 0 ≤ (9804 * ndS 13 tq + 342 * ndS 13 rq + 36864 * ndS 13 RM) from (by first | exact oz_93e1379802 k45_10 | omega)⟩) hw hA (fun v43 p42 H locs hp42 hw => ?_)
            obtain ⟨rfl, e44⟩ := hp42
            have e44 : R_Txp_wordToMove (TF_45 ip) (TA_45 ip) x45_4 v43 := e44
            have hw : pw D A s.heap H locs [wd_Ker cs hk kr (fun _ => none) kf ka_45 (gKe pq pz_45 tq_45 rq_45), fm 13 (fRw cs rq_45 RR_45 RM_45 RW_45 RF_45 RA_45 RC_45), fm 8 (fPp cs pq PV), fo 13 (fTx cs tq_45 TR_45 TO_45 TF_45 TA_45) ip, wd_Txp cs hx (TR_45 ip) (fun k => if k = 3 then (some hp2) else none) (TF_45 ip) (TA_45 ip) (fun _ _ => none)] := hw
            have lv43 := Int32.le_toInt v43
            have uv43 := Int32.toInt_lt v43
            refine px_iast S hT hw 0 2 (n := 128) (f := (ka_45 1)) (x := z41) (y := v43) rfl (ga_Ker_1 _ _ _ _ _ _ _) (vp_in_iff.mpr (by constructor <;> omega)) d_Ker_move_105 (w' := wd_Ker cs hk kr (fun _ => none) kf (va_up ka_45 1 (upd (ka_45 1) z41.toNatClampNeg v43)) (gKe pq pz_45 tq_45 rq_45)) (ps' := [wd_Ker cs hk kr (fun _ => none) kf (va_up ka_45 1 (upd (ka_45 1) z41.toNatClampNeg v43)) (gKe pq pz_45 tq_45 rq_45), fm 13 (fRw cs rq_45 RR_45 RM_45 RW_45 RF_45 RA_45 RC_45), fm 8 (fPp cs pq PV), fo 13 (fTx cs tq_45 TR_45 TO_45 TF_45 TA_45) ip, wd_Txp cs hx (TR_45 ip) (fun k => if k = 3 then (some hp2) else none) (TF_45 ip) (TA_45 ip) (fun _ _ => none)]) (sa_Ker_1 _ _ _ _ _ _ _ _) rfl (fun H locs hw => ?_)
            have hro : RoI (va_up ka_45 1 (upd (ka_45 1) z41.toNatClampNeg v43)) := hro.oth (by decide) (by decide)
            obtain ⟨z45, ez45⟩ : ∃ y : Int32, y = x45_4 + 1 := ⟨_, rfl⟩
            have tz45 : z45.toInt = (x45_4.toInt + 1 + 2147483648) % 4294967296 - 2147483648 := by rw [ez45]; exact i_add x45_4 1
            have lz45 := Int32.le_toInt z45
            have uz45 := Int32.toInt_lt z45
            try replace tz45 : z45.toInt = x45_4.toInt + 1 := by omega
            refine lv_iinc (v := z45) (lv' := [(4, .int z45), (0, .ref hk), (1, .ref hx), (2, .int p0), (3, .int x45_3)]) S.x S.b d_Ker_move_106 hl (k := 4) rfl (by rw [ez45]; rfl) (by decide) rfl (fun ls hl => ?_)
            refine lv_goto (tgt := 45) S.x S.b d_Ker_move_109 (by decide) ?_
            have hw : pw D A s.heap _ _ [wd_Ker cs hk kr (fun _ => none) kf (va_up ka_45 1 (upd (ka_45 1) z41.toNatClampNeg v43)) (gKe pq pz_45 tq_45 rq_45), fm 13 (fRw cs rq_45 RR_45 RM_45 RW_45 RF_45 RA_45 RC_45), fm 8 (fPp cs pq PV), fm 13 (fTx cs tq_45 TR_45 TO_45 TF_45 TA_45)] := ftx_back (pr := [wd_Ker cs hk kr (fun _ => none) kf (va_up ka_45 1 (upd (ka_45 1) z41.toNatClampNeg v43)) (gKe pq pz_45 tq_45 rq_45), fm 13 (fRw cs rq_45 RR_45 RM_45 RW_45 RF_45 RA_45 RC_45), fm 8 (fPp cs pq PV)]) hw hip k45_3.1 hto2
            have hw : pw D A s.heap _ _ [wd_Ker cs hk kr (fun _ => none) kf (va_up ka_45 1 (upd (ka_45 1) z41.toNatClampNeg v43)) (gKe pq pz_45 tq_45 rq_45), fm 13 (fTx cs tq_45 TR_45 TO_45 TF_45 TA_45), fm 13 (fRw cs rq_45 RR_45 RM_45 RW_45 RF_45 RA_45 RC_45), fm 8 (fPp cs pq PV)] := hw.sub [0, 3, 1, 2] rfl rfl
            exact ih45 ce_45 sl_45 pz_45 tq_45 rq_45 (va_up ka_45 1 (upd (ka_45 1) z41.toNatClampNeg v43)) TR_45 TO_45 TF_45 TA_45 RR_45 RM_45 RW_45 RF_45 RA_45 RC_45 x45_3 z45 _ _ ls (show KnI pq PV pz_45 tq_45 rq_45 TO_45 TF_45 TA_45 RW_45 RF_45 from hki) (show RoI (va_up ka_45 1 (upd (ka_45 1) z41.toNatClampNeg v43)) from hro) (show RmI rq_45 RM_45 from hrm) (show CuT pq PV tq_45 TO_45 ip hx from k45_3) (show 0 ≤ z45.toInt from by first | exact oz_ae613611c0 tz45 k45_4 | omega) (show z45.toInt ≤ 16 from by first | exact oz_46c819e4be tz45 nc20 | omega) (show x45_3.toInt ≤ 16 from by first | exact k45_6 | omega) (show 0 ≤ p0.toInt from by first | exact k45_7 | omega) (show p0.toInt ≤ 7 from by first | exact k45_8 | omega) (show ce_45 + (5 * ndS 13 tq_45 + 4 * ndS 13 rq_45 + ndS 13 RM_45) ≤ 5 * ndS 13 tq + 4 * ndS 13 rq + ndS 13 RM from by first | exact k45_9 | omega) (show sl_45 + (9804 * ndS 13 tq_45 + 342 * ndS 13 rq_45 + 36864 * ndS 13 RM_45) ≤ 9804 * ndS 13 tq + 342 * ndS 13 rq + 36864 * ndS 13 RM from by first | exact k45_10 | omega) (show x45_3.toInt - z45.toInt + 4294967297 < (n_45 : Int) from by omega) hw (lv_sub hl [1, 2, 3, 4, 0] rfl)
          · have nc38 : ((TF_45 ip) 22).toInt = (7 : Int) := (i_eq (x := ((TF_45 ip) 22)) (y := 7)).mp c38
            refine lv_aload_n S.x S.b d_Ker_move_67 rfl (lv_at hl 1 rfl) ?_
            refine lv_iload S.x S.b d_Ker_move_68 (lv_at hl 4 rfl) ?_
            refine lv_aload_n S.x S.b d_Ker_move_70 rfl (lv_at hl 0 rfl) ?_
            refine px_get S k_Ker hT hw 0 0 1 (v := .ref (kr 1)) rfl rfl rfl (by decide) m2_220 d_Ker_move_71 ?_
            refine lv_bipush (v := 16) S.x S.b d_Ker_move_74 (by decide) ?_
            refine lv_iload_n S.x S.b d_Ker_move_76 rfl (lv_at hl 2 rfl) ?_
            refine lv_imul S.x S.b d_Ker_move_77 ?_
            refine lv_topi (fun z46 ez46 => ?_)
            have lz46 := Int32.le_toInt z46
            have uz46 := Int32.toInt_lt z46
            have tz46 : -2147483648 ≤ 16 * p0.toInt → 16 * p0.toInt < 2147483648 → z46.toInt = 16 * p0.toInt := by rw [ez46]; exact i_mulc 16 p0 (by decide)
            try replace tz46 : z46.toInt = 16 * p0.toInt := by omega
            refine lv_iload S.x S.b d_Ker_move_78 (lv_at hl 4 rfl) ?_
            refine lv_iadd S.x S.b d_Ker_move_80 ?_
            refine lv_topi (fun z47 ez47 => ?_)
            have tz47 : z47.toInt = (z46.toInt + x45_4.toInt + 2147483648) % 4294967296 - 2147483648 := by rw [ez47]; exact i_add z46 x45_4
            have lz47 := Int32.le_toInt z47
            have uz47 := Int32.toInt_lt z47
            try replace tz47 : z47.toInt = z46.toInt + x45_4.toInt := by omega
            refine px_iald S hT hw 0 2 (n := 128) (f := (ka_45 1)) rfl (ga_Ker_1 _ _ _ _ _ _ _) (x := z47) (vp_in_iff.mpr (by first | exact oz_903bb5f34d tz47 k45_4 tz46 k45_7 nc20 k45_8 | (constructor <;> omega))) d_Ker_move_81 ?_
            refine lv_topi (fun z48 ez48 => ?_)
            have lz48 := Int32.le_toInt z48
            have uz48 := Int32.toInt_lt z48
            refine px_callv (pr := [wd_Ker cs hk kr (fun _ => none) kf ka_45 (gKe pq pz_45 tq_45 rq_45), fm 13 (fRw cs rq_45 RR_45 RM_45 RW_45 RF_45 RA_45 RC_45), fm 8 (fPp cs pq PV), fo 13 (fTx cs tq_45 TR_45 TO_45 TF_45 TA_45) ip]) (px_runA (As := [.int x45_4, .int z48]) (rest := []) S (c_Txp_moveWord l D cs hx (TR_45 ip) (fun _ _ => none) hp2 (TF_45 ip) (TA_45 ip) x45_4 z48  (show TxOk ((TF_45 ip) 4) ((TF_45 ip) 5) ((TF_45 ip) 8) ((TF_45 ip) 9) ((TF_45 ip) 17) ((TF_45 ip) 21) ((TA_45 ip) 2) from ⟨(by first | exact lk | exact lk_eq lk (by omega) | exact lk_mk (by omega)), ⟨by omega, by omega⟩, ⟨by omega, by omega⟩, ⟨by omega, by omega⟩, by omega, ⟨by omega, by omega⟩, by omega, hrt⟩) _) hT (pr := [wd_Ker cs hk kr (fun _ => none) kf ka_45 (gKe pq pz_45 tq_45 rq_45), fm 13 (fRw cs rq_45 RR_45 RM_45 RW_45 RF_45 RA_45 RC_45), fm 8 (fPp cs pq PV), fo 13 (fTx cs tq_45 TR_45 TO_45 TF_45 TA_45) ip]) (pcs := [wd_Txp cs hx (TR_45 ip) (fun k => if k = 3 then (some hp2) else none) (TF_45 ip) (TA_45 ip) (fun _ _ => none)]) hw px_X.tt (C := "HomeSystem$TextProcess") (owner := "HomeSystem$AnyProcess") (x := ⟨"HomeSystem$AnyProcess", "moveWord", "(II)V"⟩) (px_recv hT hw 4 0 rfl rfl rfl) m8_125 m8_111 m8_113 m8_124 m8_123 m1_35 m8_112n ⟨by decide, by decide⟩ rfl q_Txp_moveWord ⟨Nat.le_of_ble_eq_true rfl, Nat.le_of_ble_eq_true rfl⟩ hl.1 rfl (Nat.le_of_ble_eq_true rfl) d_Ker_move_82 ⟨show ce_45 + 0 ≤ (5 * ndS 13 tq + 4 * ndS 13 rq + ndS 13 RM) from (by first | exact oz_3e0efcc333 k45_9 | omega), show sl_45 + 0 ≤ (9804 * ndS 13 tq + 342 * ndS 13 rq + 36864 * ndS 13 RM) from (by first | exact oz_93e1379802 k45_10 | omega)⟩) hw hA (fun p51 H locs hp51 hw => ?_)
            obtain ⟨f49, a50, rfl, h60, e53, e54, e55, e56, e57, e58, e59⟩ := hp51
            obtain ⟨lk, ⟨i2, i3⟩, ⟨i4, i5⟩, ⟨i6, i7⟩, i8, ⟨i9, i11⟩, i10, hrt⟩ := h60
            have e53 : (f49 9).toInt = ((TF_45 ip) 9).toInt := e53
            have e54 : (f49 17).toInt = ((TF_45 ip) 17).toInt := e54
            have e55 : (f49 21).toInt = ((TF_45 ip) 21).toInt := e55
            have e56 : (f49 15).toInt = ((TF_45 ip) 15).toInt := e56
            have e57 : (f49 20).toInt = ((TF_45 ip) 20).toInt := e57
            have e58 : (f49 4).toInt = ((TF_45 ip) 4).toInt := e58
            have e59 : R_Txp_moveWord x45_4 z48 (TF_45 ip) (TA_45 ip) f49 a50 := e59
            have hw : pw D A s.heap H locs [wd_Ker cs hk kr (fun _ => none) kf ka_45 (gKe pq pz_45 tq_45 rq_45), fm 13 (fRw cs rq_45 RR_45 RM_45 RW_45 RF_45 RA_45 RC_45), fm 8 (fPp cs pq PV), fo 13 (fTx cs tq_45 TR_45 TO_45 TF_45 TA_45) ip, wd_Txp cs hx (TR_45 ip) (fun k => if k = 3 then (some hp2) else none) f49 a50 (fun _ _ => none)] := hw
            refine lv_goto (tgt := 106) S.x S.b d_Ker_move_85 (by decide) ?_
            obtain ⟨z61, ez61⟩ : ∃ y : Int32, y = x45_4 + 1 := ⟨_, rfl⟩
            have tz61 : z61.toInt = (x45_4.toInt + 1 + 2147483648) % 4294967296 - 2147483648 := by rw [ez61]; exact i_add x45_4 1
            have lz61 := Int32.le_toInt z61
            have uz61 := Int32.toInt_lt z61
            try replace tz61 : z61.toInt = x45_4.toInt + 1 := by omega
            refine lv_iinc (v := z61) (lv' := [(4, .int z61), (0, .ref hk), (1, .ref hx), (2, .int p0), (3, .int x45_3)]) S.x S.b d_Ker_move_106 hl (k := 4) rfl (by rw [ez61]; rfl) (by decide) rfl (fun ls hl => ?_)
            refine lv_goto (tgt := 45) S.x S.b d_Ker_move_109 (by decide) ?_
            have hw := ftx_in0 (pr := [wd_Ker cs hk kr (fun _ => none) kf ka_45 (gKe pq pz_45 tq_45 rq_45), fm 13 (fRw cs rq_45 RR_45 RM_45 RW_45 RF_45 RA_45 RC_45), fm 8 (fPp cs pq PV)]) hw hip k45_3.1 hto2
            obtain ⟨TF62, hu_TF62⟩ : ∃ y : Nat → Nat → Int32, y = va_up TF_45 ip f49 := ⟨_, rfl⟩
            obtain ⟨TA63, hu_TA63⟩ : ∃ y : Nat → Nat → Nat → Int32, y = va_up TA_45 ip a50 := ⟨_, rfl⟩
            have hw : pw D A s.heap _ _ [wd_Ker cs hk kr (fun _ => none) kf ka_45 (gKe pq pz_45 tq_45 rq_45), fm 13 (fRw cs rq_45 RR_45 RM_45 RW_45 RF_45 RA_45 RC_45), fm 8 (fPp cs pq PV), fm 13 (fTx cs tq_45 TR_45 TO_45 TF62 TA63)] := (by rw [hu_TF62, hu_TA63]; exact hw)
            have hki : KnI pq PV pz_45 tq_45 rq_45 TO_45 TF62 TA63 RW_45 RF_45 := (by rw [hu_TF62, hu_TA63]; exact hki.upT (show TxN ip f49 a50 from ⟨(show TxOk (f49 4) (f49 5) (f49 8) (f49 9) (f49 17) (f49 21) (a50 2) from ⟨(by first | exact lk | exact lk_eq lk (by omega) | exact lk_mk (by omega)), ⟨by omega, by omega⟩, ⟨by omega, by omega⟩, ⟨by omega, by omega⟩, by omega, ⟨by omega, by omega⟩, by omega, hrt⟩), (show ((f49 15).toInt) = ((ip : Nat) : Int) from by omega), (show 0 ≤ (f49 20).toInt ∧ (f49 20).toInt ≤ 3 ∧ ((f49 20).toInt = 0 ∨ 3 * ((ip : Nat) : Int) + (f49 20).toInt ≤ 12) from by omega)⟩))
            have hz21_TF62 : (TF62 ip 21).toInt = (f49 21).toInt := (by rw [hu_TF62, va_up_s]; try rfl)
            have hw : pw D A s.heap _ _ [wd_Ker cs hk kr (fun _ => none) kf ka_45 (gKe pq pz_45 tq_45 rq_45), fm 13 (fTx cs tq_45 TR_45 TO_45 TF62 TA63), fm 13 (fRw cs rq_45 RR_45 RM_45 RW_45 RF_45 RA_45 RC_45), fm 8 (fPp cs pq PV)] := hw.sub [0, 3, 1, 2] rfl rfl
            exact ih45 ce_45 sl_45 pz_45 tq_45 rq_45 ka_45 TR_45 TO_45 TF62 TA63 RR_45 RM_45 RW_45 RF_45 RA_45 RC_45 x45_3 z61 _ _ ls (show KnI pq PV pz_45 tq_45 rq_45 TO_45 TF62 TA63 RW_45 RF_45 from hki) (show RoI ka_45 from hro) (show RmI rq_45 RM_45 from hrm) (show CuT pq PV tq_45 TO_45 ip hx from k45_3) (show 0 ≤ z61.toInt from by first | exact oz_ae613611c0 tz61 k45_4 | omega) (show z61.toInt ≤ 16 from by first | exact oz_46c819e4be tz61 nc20 | omega) (show x45_3.toInt ≤ 16 from by first | exact k45_6 | omega) (show 0 ≤ p0.toInt from by first | exact k45_7 | omega) (show p0.toInt ≤ 7 from by first | exact k45_8 | omega) (show ce_45 + (5 * ndS 13 tq_45 + 4 * ndS 13 rq_45 + ndS 13 RM_45) ≤ 5 * ndS 13 tq + 4 * ndS 13 rq + ndS 13 RM from by first | exact k45_9 | omega) (show sl_45 + (9804 * ndS 13 tq_45 + 342 * ndS 13 rq_45 + 36864 * ndS 13 RM_45) ≤ 9804 * ndS 13 tq + 342 * ndS 13 rq + 36864 * ndS 13 RM from by first | exact k45_10 | omega) (show x45_3.toInt - z61.toInt + 4294967297 < (n_45 : Int) from by omega) hw (lv_sub hl [1, 2, 3, 4, 0] rfl)
  refine lv_aload_n S.x S.b d_Ker_move_0 rfl (lv_at hl 1 rfl) ?_
  obtain ⟨j64, hp64, hj64, hjq64, hto64, hf064⟩ := hcu.2
  have hw : pw D A s.heap _ _ [wd_Ker cs hk kr (fun _ => none) kf ka (gKe pq pz tq rq), fm 13 (fRw cs rq RR RM RW RF RA RC), fm 8 (fPp cs pq PV), fm 13 (fTx cs tq TR TO TF TA)] := hw.sub [0, 2, 3, 1] rfl rfl
  have hw : pw D A s.heap _ _ [wd_Ker cs hk kr (fun _ => none) kf ka (gKe pq pz tq rq), fm 13 (fRw cs rq RR RM RW RF RA RC), fm 8 (fPp cs pq PV), fo 13 (fTx cs tq TR TO TF TA) ip, wd_Txp cs hx (TR ip) (fun k => if k = 3 then (some hp64) else none) (TF ip) (TA ip) (fun _ _ => none)] := ftx_out (pr := [wd_Ker cs hk kr (fun _ => none) kf ka (gKe pq pz tq rq), fm 13 (fRw cs rq RR RM RW RF RA RC), fm 8 (fPp cs pq PV)]) hw hip hcu.1 hto64
  have htn65 : TxN ip (TF ip) (TA ip) := hki.2.1 ip hip _ hcu.1
  obtain ⟨lk, ⟨i2, i3⟩, ⟨i4, i5⟩, ⟨i6, i7⟩, i8, ⟨i9, i11⟩, i10, hrt⟩ := htn65.1
  have hid65 := htn65.2.1
  have hch65 := htn65.2.2
  unfold KcI at hch65
  refine px_get S k_Txp hT hw 4 0 15 (v := .int ((TF ip) 15)) rfl rfl rfl (by decide) m6_133 d_Ker_move_1 ?_
  refine lv_if_ne (tgt := 17) S.x S.b d_Ker_move_4 (by decide) (fun c66 => ?_) (fun c66 => ?_)
  · have nc66 : ¬ ((TF ip) 15).toInt = (0 : Int) := mt (i_eq (x := ((TF ip) 15)) (y := 0)).mpr c66
    refine lv_aload_n S.x S.b d_Ker_move_17 rfl (lv_at hl 1 rfl) ?_
    refine lv_iconst (v := 2) S.x S.b d_Ker_move_18 (by decide) ?_
    refine lv_iconst (v := 0) S.x S.b d_Ker_move_19 (by decide) ?_
    refine px_callv (pr := [wd_Ker cs hk kr (fun _ => none) kf ka (gKe pq pz tq rq), fm 13 (fRw cs rq RR RM RW RF RA RC), fm 8 (fPp cs pq PV), fo 13 (fTx cs tq TR TO TF TA) ip]) (px_runU (As := [.int 2, .int 0]) (rest := []) S (c_finish_Txp l D cs hx (TR ip) (fun _ _ => none) hp64 (TF ip) (TA ip) 2 0  (show TxOk ((TF ip) 4) ((TF ip) 5) ((TF ip) 8) ((TF ip) 9) ((TF ip) 17) ((TF ip) 21) ((TA ip) 2) from ⟨(by first | exact lk | exact lk_eq lk (by omega) | exact lk_mk (by omega)), ⟨by omega, by omega⟩, ⟨by omega, by omega⟩, ⟨by omega, by omega⟩, by omega, ⟨by first | exact oz_1b364b1c5f g0 | omega, by first | exact oz_02032f9386 g0 | omega⟩, by omega, hrt⟩) _) hT (pr := [wd_Ker cs hk kr (fun _ => none) kf ka (gKe pq pz tq rq), fm 13 (fRw cs rq RR RM RW RF RA RC), fm 8 (fPp cs pq PV), fo 13 (fTx cs tq TR TO TF TA) ip]) (pcs := [wd_Txp cs hx (TR ip) (fun k => if k = 3 then (some hp64) else none) (TF ip) (TA ip) (fun _ _ => none)]) hw px_X.tt (C := "HomeSystem$TextProcess") (x := ⟨"HomeSystem$AnyProcess", "finish", "(II)V"⟩) (px_recv hT hw 4 0 rfl rfl rfl) m8_89 m8_84 m8_86 m8_85 m8_88 m1_33 rfl q_HomeSystem_AnyProcess_finish ⟨Nat.le_of_ble_eq_true rfl, Nat.le_of_ble_eq_true rfl⟩ hl.1 rfl (Nat.le_of_ble_eq_true rfl) d_Ker_move_20 ⟨show 0 + 0 ≤ (5 * ndS 13 tq + 4 * ndS 13 rq + ndS 13 RM) from (by first | exact oz_9c199dfd7f | omega), show 0 + 0 ≤ (9804 * ndS 13 tq + 342 * ndS 13 rq + 36864 * ndS 13 RM) from (by first | exact oz_54615505fb | omega)⟩) hw hA (fun p70 H locs hp70 hw => ?_)
    obtain ⟨f68, a69, rfl, h78, e72, e73, e74, e75, e76, e77⟩ := hp70
    obtain ⟨lk, ⟨i2, i3⟩, ⟨i4, i5⟩, ⟨i6, i7⟩, i8, ⟨i9, i11⟩, i10, hrt⟩ := h78
    have e72 : (f68 9).toInt = ((TF ip) 9).toInt := e72
    have e73 : (f68 17).toInt = ((TF ip) 17).toInt := e73
    have e74 : (f68 21).toInt = 0 := e74
    have e75 : (f68 15).toInt = ((TF ip) 15).toInt := e75
    have e76 : (f68 20).toInt = ((TF ip) 20).toInt := e76
    have e77 : R_finish_Txp (2 : Int32) (0 : Int32) (TF ip) (TA ip) f68 a69 := e77
    have hw : pw D A s.heap H locs [wd_Ker cs hk kr (fun _ => none) kf ka (gKe pq pz tq rq), fm 13 (fRw cs rq RR RM RW RF RA RC), fm 8 (fPp cs pq PV), fo 13 (fTx cs tq TR TO TF TA) ip, wd_Txp cs hx (TR ip) (fun k => if k = 3 then (some hp64) else none) f68 a69 (fun _ _ => none)] := hw
    have hw := ftx_in0 (pr := [wd_Ker cs hk kr (fun _ => none) kf ka (gKe pq pz tq rq), fm 13 (fRw cs rq RR RM RW RF RA RC), fm 8 (fPp cs pq PV)]) hw hip hcu.1 hto64
    obtain ⟨TF79, hu_TF79⟩ : ∃ y : Nat → Nat → Int32, y = va_up TF ip f68 := ⟨_, rfl⟩
    obtain ⟨TA80, hu_TA80⟩ : ∃ y : Nat → Nat → Nat → Int32, y = va_up TA ip a69 := ⟨_, rfl⟩
    have hw : pw D A s.heap _ _ [wd_Ker cs hk kr (fun _ => none) kf ka (gKe pq pz tq rq), fm 13 (fRw cs rq RR RM RW RF RA RC), fm 8 (fPp cs pq PV), fm 13 (fTx cs tq TR TO TF79 TA80)] := (by rw [hu_TF79, hu_TA80]; exact hw)
    have hki : KnI pq PV pz tq rq TO TF79 TA80 RW RF := (by rw [hu_TF79, hu_TA80]; exact hki.upT (show TxN ip f68 a69 from ⟨(show TxOk (f68 4) (f68 5) (f68 8) (f68 9) (f68 17) (f68 21) (a69 2) from ⟨(by first | exact lk | exact lk_eq lk (by omega) | exact lk_mk (by omega)), ⟨by omega, by omega⟩, ⟨by omega, by omega⟩, ⟨by omega, by omega⟩, by omega, ⟨by omega, by omega⟩, by omega, hrt⟩), (show ((f68 15).toInt) = ((ip : Nat) : Int) from by omega), (show 0 ≤ (f68 20).toInt ∧ (f68 20).toInt ≤ 3 ∧ ((f68 20).toInt = 0 ∨ 3 * ((ip : Nat) : Int) + (f68 20).toInt ≤ 12) from by omega)⟩))
    have hz21_TF79 : (TF79 ip 21).toInt = (f68 21).toInt := (by rw [hu_TF79, va_up_s]; try rfl)
    have hw : pw D A s.heap _ _ [wd_Ker cs hk kr (fun _ => none) kf ka (gKe pq pz tq rq), fm 13 (fTx cs tq TR TO TF79 TA80), fm 13 (fRw cs rq RR RM RW RF RA RC), fm 8 (fPp cs pq PV)] := hw.sub [0, 3, 1, 2] rfl rfl
    exact pg_vret S hr hlk hAe hw (show 0 ≤ (5 * ndS 13 tq + 4 * ndS 13 rq + ndS 13 RM) from by first | exact oz_86e49526c7 | omega) (show 0 ≤ (9804 * ndS 13 tq + 342 * ndS 13 rq + 36864 * ndS 13 RM) from by first | exact oz_fc3b58e969 | omega) (⟨pz, tq, rq, ka, TR, TO, TF79, TA80, RR, RM, RW, RF, RA, RC, rfl, (show CuT pq PV tq TO ip hx from hcu), (show KnI pq PV pz tq rq TO TF79 TA80 RW RF from hki), (show RoI ka from hro), (show RmI rq RM from hrm), (show 0 + (5 * ndS 13 tq + 4 * ndS 13 rq + ndS 13 RM) ≤ 5 * ndS 13 tq + 4 * ndS 13 rq + ndS 13 RM from by first | exact oz_9d19b050ad | omega), (show 0 + (9804 * ndS 13 tq + 342 * ndS 13 rq + 36864 * ndS 13 RM) ≤ 9804 * ndS 13 tq + 342 * ndS 13 rq + 36864 * ndS 13 RM from by first | exact oz_b5592d0ae7 | omega)⟩) d_Ker_move_23
  · have nc66 : ((TF ip) 15).toInt = (0 : Int) := (i_eq (x := ((TF ip) 15)) (y := 0)).mp c66
    refine lv_iload_n S.x S.b d_Ker_move_7 rfl (lv_at hl 2 rfl) ?_
    refine lv_if_lt (tgt := 17) S.x S.b d_Ker_move_8 (by decide) (fun c81 => ?_) (fun c81 => ?_)
    · have nc81 : p0.toInt < (0 : Int) := (i_lt (x := p0) (y := 0)).mp c81
      refine lv_aload_n S.x S.b d_Ker_move_17 rfl (lv_at hl 1 rfl) ?_
      refine lv_iconst (v := 2) S.x S.b d_Ker_move_18 (by decide) ?_
      refine lv_iconst (v := 0) S.x S.b d_Ker_move_19 (by decide) ?_
      refine px_callv (pr := [wd_Ker cs hk kr (fun _ => none) kf ka (gKe pq pz tq rq), fm 13 (fRw cs rq RR RM RW RF RA RC), fm 8 (fPp cs pq PV), fo 13 (fTx cs tq TR TO TF TA) ip]) (px_runU (As := [.int 2, .int 0]) (rest := []) S (c_finish_Txp l D cs hx (TR ip) (fun _ _ => none) hp64 (TF ip) (TA ip) 2 0  (show TxOk ((TF ip) 4) ((TF ip) 5) ((TF ip) 8) ((TF ip) 9) ((TF ip) 17) ((TF ip) 21) ((TA ip) 2) from ⟨(by first | exact lk | exact lk_eq lk (by omega) | exact lk_mk (by omega)), ⟨by omega, by omega⟩, ⟨by omega, by omega⟩, ⟨by omega, by omega⟩, by omega, ⟨by first | exact oz_1b364b1c5f g0 | omega, by first | exact oz_02032f9386 g0 | omega⟩, by omega, hrt⟩) _) hT (pr := [wd_Ker cs hk kr (fun _ => none) kf ka (gKe pq pz tq rq), fm 13 (fRw cs rq RR RM RW RF RA RC), fm 8 (fPp cs pq PV), fo 13 (fTx cs tq TR TO TF TA) ip]) (pcs := [wd_Txp cs hx (TR ip) (fun k => if k = 3 then (some hp64) else none) (TF ip) (TA ip) (fun _ _ => none)]) hw px_X.tt (C := "HomeSystem$TextProcess") (x := ⟨"HomeSystem$AnyProcess", "finish", "(II)V"⟩) (px_recv hT hw 4 0 rfl rfl rfl) m8_89 m8_84 m8_86 m8_85 m8_88 m1_33 rfl q_HomeSystem_AnyProcess_finish ⟨Nat.le_of_ble_eq_true rfl, Nat.le_of_ble_eq_true rfl⟩ hl.1 rfl (Nat.le_of_ble_eq_true rfl) d_Ker_move_20 ⟨show 0 + 0 ≤ (5 * ndS 13 tq + 4 * ndS 13 rq + ndS 13 RM) from (by first | exact oz_9c199dfd7f | omega), show 0 + 0 ≤ (9804 * ndS 13 tq + 342 * ndS 13 rq + 36864 * ndS 13 RM) from (by first | exact oz_54615505fb | omega)⟩) hw hA (fun p85 H locs hp85 hw => ?_)
      obtain ⟨f83, a84, rfl, h93, e87, e88, e89, e90, e91, e92⟩ := hp85
      obtain ⟨lk, ⟨i2, i3⟩, ⟨i4, i5⟩, ⟨i6, i7⟩, i8, ⟨i9, i11⟩, i10, hrt⟩ := h93
      have e87 : (f83 9).toInt = ((TF ip) 9).toInt := e87
      have e88 : (f83 17).toInt = ((TF ip) 17).toInt := e88
      have e89 : (f83 21).toInt = 0 := e89
      have e90 : (f83 15).toInt = ((TF ip) 15).toInt := e90
      have e91 : (f83 20).toInt = ((TF ip) 20).toInt := e91
      have e92 : R_finish_Txp (2 : Int32) (0 : Int32) (TF ip) (TA ip) f83 a84 := e92
      have hw : pw D A s.heap H locs [wd_Ker cs hk kr (fun _ => none) kf ka (gKe pq pz tq rq), fm 13 (fRw cs rq RR RM RW RF RA RC), fm 8 (fPp cs pq PV), fo 13 (fTx cs tq TR TO TF TA) ip, wd_Txp cs hx (TR ip) (fun k => if k = 3 then (some hp64) else none) f83 a84 (fun _ _ => none)] := hw
      have hw := ftx_in0 (pr := [wd_Ker cs hk kr (fun _ => none) kf ka (gKe pq pz tq rq), fm 13 (fRw cs rq RR RM RW RF RA RC), fm 8 (fPp cs pq PV)]) hw hip hcu.1 hto64
      obtain ⟨TF94, hu_TF94⟩ : ∃ y : Nat → Nat → Int32, y = va_up TF ip f83 := ⟨_, rfl⟩
      obtain ⟨TA95, hu_TA95⟩ : ∃ y : Nat → Nat → Nat → Int32, y = va_up TA ip a84 := ⟨_, rfl⟩
      have hw : pw D A s.heap _ _ [wd_Ker cs hk kr (fun _ => none) kf ka (gKe pq pz tq rq), fm 13 (fRw cs rq RR RM RW RF RA RC), fm 8 (fPp cs pq PV), fm 13 (fTx cs tq TR TO TF94 TA95)] := (by rw [hu_TF94, hu_TA95]; exact hw)
      have hki : KnI pq PV pz tq rq TO TF94 TA95 RW RF := (by rw [hu_TF94, hu_TA95]; exact hki.upT (show TxN ip f83 a84 from ⟨(show TxOk (f83 4) (f83 5) (f83 8) (f83 9) (f83 17) (f83 21) (a84 2) from ⟨(by first | exact lk | exact lk_eq lk (by omega) | exact lk_mk (by omega)), ⟨by omega, by omega⟩, ⟨by omega, by omega⟩, ⟨by omega, by omega⟩, by omega, ⟨by omega, by omega⟩, by omega, hrt⟩), (show ((f83 15).toInt) = ((ip : Nat) : Int) from by omega), (show 0 ≤ (f83 20).toInt ∧ (f83 20).toInt ≤ 3 ∧ ((f83 20).toInt = 0 ∨ 3 * ((ip : Nat) : Int) + (f83 20).toInt ≤ 12) from by omega)⟩))
      have hz21_TF94 : (TF94 ip 21).toInt = (f83 21).toInt := (by rw [hu_TF94, va_up_s]; try rfl)
      have hw : pw D A s.heap _ _ [wd_Ker cs hk kr (fun _ => none) kf ka (gKe pq pz tq rq), fm 13 (fTx cs tq TR TO TF94 TA95), fm 13 (fRw cs rq RR RM RW RF RA RC), fm 8 (fPp cs pq PV)] := hw.sub [0, 3, 1, 2] rfl rfl
      exact pg_vret S hr hlk hAe hw (show 0 ≤ (5 * ndS 13 tq + 4 * ndS 13 rq + ndS 13 RM) from by first | exact oz_86e49526c7 | omega) (show 0 ≤ (9804 * ndS 13 tq + 342 * ndS 13 rq + 36864 * ndS 13 RM) from by first | exact oz_fc3b58e969 | omega) (⟨pz, tq, rq, ka, TR, TO, TF94, TA95, RR, RM, RW, RF, RA, RC, rfl, (show CuT pq PV tq TO ip hx from hcu), (show KnI pq PV pz tq rq TO TF94 TA95 RW RF from hki), (show RoI ka from hro), (show RmI rq RM from hrm), (show 0 + (5 * ndS 13 tq + 4 * ndS 13 rq + ndS 13 RM) ≤ 5 * ndS 13 tq + 4 * ndS 13 rq + ndS 13 RM from by first | exact oz_9d19b050ad | omega), (show 0 + (9804 * ndS 13 tq + 342 * ndS 13 rq + 36864 * ndS 13 RM) ≤ 9804 * ndS 13 tq + 342 * ndS 13 rq + 36864 * ndS 13 RM from by first | exact oz_b5592d0ae7 | omega)⟩) d_Ker_move_23
    · have nc81 : ¬ p0.toInt < (0 : Int) := mt (i_lt (x := p0) (y := 0)).mpr c81
      refine lv_iload_n S.x S.b d_Ker_move_11 rfl (lv_at hl 2 rfl) ?_
      refine lv_bipush (v := 8) S.x S.b d_Ker_move_12 (by decide) ?_
      refine lv_icmp_lt (tgt := 24) S.x S.b d_Ker_move_14 (by decide) (fun c96 => ?_) (fun c96 => ?_)
      · have nc96 : p0.toInt < (8 : Int) := (i_lt (x := p0) (y := 8)).mp c96
        refine lv_aload_n S.x S.b d_Ker_move_24 rfl (lv_at hl 1 rfl) ?_
        refine px_calli (pr := [wd_Ker cs hk kr (fun _ => none) kf ka (gKe pq pz tq rq), fm 13 (fRw cs rq RR RM RW RF RA RC), fm 8 (fPp cs pq PV), fo 13 (fTx cs tq TR TO TF TA) ip]) (px_runA (As := []) (rest := []) S (c_Txp_movable l D cs hx (TR ip) (fun _ _ => none) hp64 (TF ip) (TA ip)   (show TxOk ((TF ip) 4) ((TF ip) 5) ((TF ip) 8) ((TF ip) 9) ((TF ip) 17) ((TF ip) 21) ((TA ip) 2) from ⟨(by first | exact lk | exact lk_eq lk (by omega) | exact lk_mk (by omega)), ⟨by omega, by omega⟩, ⟨by omega, by omega⟩, ⟨by omega, by omega⟩, by omega, ⟨by first | exact oz_1b364b1c5f g0 | omega, by first | exact oz_02032f9386 g0 | omega⟩, by omega, hrt⟩) _) hT (pr := [wd_Ker cs hk kr (fun _ => none) kf ka (gKe pq pz tq rq), fm 13 (fRw cs rq RR RM RW RF RA RC), fm 8 (fPp cs pq PV), fo 13 (fTx cs tq TR TO TF TA) ip]) (pcs := [wd_Txp cs hx (TR ip) (fun k => if k = 3 then (some hp64) else none) (TF ip) (TA ip) (fun _ _ => none)]) hw px_X.tt (C := "HomeSystem$TextProcess") (owner := "HomeSystem$AnyProcess") (x := ⟨"HomeSystem$AnyProcess", "movable", "()I"⟩) (px_recv hT hw 4 0 rfl rfl rfl) m8_110 m8_90 m8_92 m8_109 m8_108 m1_35 m8_91n ⟨by decide, by decide⟩ rfl q_Txp_movable ⟨Nat.le_of_ble_eq_true rfl, Nat.le_of_ble_eq_true rfl⟩ hl.1 rfl (Nat.le_of_ble_eq_true rfl) d_Ker_move_25 ⟨show 0 + 0 ≤ (5 * ndS 13 tq + 4 * ndS 13 rq + ndS 13 RM) from (by first | exact oz_9c199dfd7f | omega), show 0 + 0 ≤ (9804 * ndS 13 tq + 342 * ndS 13 rq + 36864 * ndS 13 RM) from (by first | exact oz_54615505fb | omega)⟩) hw hA (fun v99 p98 H locs hp98 hw => ?_)
        obtain ⟨rfl, e100, e101⟩ := hp98
        have e100 : v99.toInt ≤ 16 := e100
        have e101 : R_Txp_movable (TF ip) v99 := e101
        have hw : pw D A s.heap H locs [wd_Ker cs hk kr (fun _ => none) kf ka (gKe pq pz tq rq), fm 13 (fRw cs rq RR RM RW RF RA RC), fm 8 (fPp cs pq PV), fo 13 (fTx cs tq TR TO TF TA) ip, wd_Txp cs hx (TR ip) (fun k => if k = 3 then (some hp64) else none) (TF ip) (TA ip) (fun _ _ => none)] := hw
        have lv99 := Int32.le_toInt v99
        have uv99 := Int32.toInt_lt v99
        refine lv_istore_n (lv' := [(3, .int v99), (0, .ref hk), (1, .ref hx), (2, .int p0)]) S.x S.b d_Ker_move_28 rfl hl (by decide) rfl (fun ls hl => ?_)
        refine lv_iload_n S.x S.b d_Ker_move_29 rfl (lv_at hl 0 rfl) ?_
        refine lv_iconst (v := (-1)) S.x S.b d_Ker_move_30 (by decide) ?_
        refine lv_icmp_ne (tgt := 42) S.x S.b d_Ker_move_31 (by decide) (fun c102 => ?_) (fun c102 => ?_)
        · have nc102 : ¬ v99.toInt = (-1 : Int) := mt (i_eq (x := v99) (y := (-1))).mpr c102
          refine lv_iconst (v := 0) S.x S.b d_Ker_move_42 (by decide) ?_
          refine lv_istore (lv' := [(4, .int 0), (3, .int v99), (0, .ref hk), (1, .ref hx), (2, .int p0)]) S.x S.b d_Ker_move_43 hl (by decide) rfl (fun ls hl => ?_)
          have hw : pw D A s.heap _ _ [wd_Ker cs hk kr (fun _ => none) kf ka (gKe pq pz tq rq), fm 13 (fRw cs rq RR RM RW RF RA RC), fm 8 (fPp cs pq PV), fm 13 (fTx cs tq TR TO TF TA)] := ftx_back (pr := [wd_Ker cs hk kr (fun _ => none) kf ka (gKe pq pz tq rq), fm 13 (fRw cs rq RR RM RW RF RA RC), fm 8 (fPp cs pq PV)]) hw hip hcu.1 hto64
          have hw : pw D A s.heap _ _ [wd_Ker cs hk kr (fun _ => none) kf ka (gKe pq pz tq rq), fm 13 (fTx cs tq TR TO TF TA), fm 13 (fRw cs rq RR RM RW RF RA RC), fm 8 (fPp cs pq PV)] := hw.sub [0, 3, 1, 2] rfl rfl
          exact J45 ((v99.toInt - (0 : Int) + 4294967297).toNat + 1) 0 0 pz tq rq ka TR TO TF TA RR RM RW RF RA RC v99 (0 : Int32) _ _ ls (show KnI pq PV pz tq rq TO TF TA RW RF from hki) (show RoI ka from hro) (show RmI rq RM from hrm) (show CuT pq PV tq TO ip hx from hcu) (show 0 ≤ (0 : Int) from by first | exact oz_5a341f00aa | omega) (show (0 : Int) ≤ 16 from by first | exact oz_43520e740e | omega) (show v99.toInt ≤ 16 from by first | exact e100 | omega) (show 0 ≤ p0.toInt from by first | exact oz_18a5c06a28 nc81 | omega) (show p0.toInt ≤ 7 from by first | exact oz_2516c64904 nc96 | omega) (show 0 + (5 * ndS 13 tq + 4 * ndS 13 rq + ndS 13 RM) ≤ 5 * ndS 13 tq + 4 * ndS 13 rq + ndS 13 RM from by first | exact oz_9d19b050ad | omega) (show 0 + (9804 * ndS 13 tq + 342 * ndS 13 rq + 36864 * ndS 13 RM) ≤ 9804 * ndS 13 tq + 342 * ndS 13 rq + 36864 * ndS 13 RM from by first | exact oz_b5592d0ae7 | omega) (show v99.toInt - (0 : Int) + 4294967297 < ((((v99.toInt - (0 : Int) + 4294967297).toNat + 1 : Nat) : Int) : Int) from by first | exact oz_natlt | omega) hw (lv_sub hl [2, 3, 4, 1, 0] rfl)
        · have nc102 : v99.toInt = (-1 : Int) := (i_eq (x := v99) (y := (-1))).mp c102
          refine lv_aload_n S.x S.b d_Ker_move_34 rfl (lv_at hl 2 rfl) ?_
          refine lv_bipush (v := 7) S.x S.b d_Ker_move_35 (by decide) ?_
          refine lv_iconst (v := 0) S.x S.b d_Ker_move_37 (by decide) ?_
          refine px_callv (pr := [wd_Ker cs hk kr (fun _ => none) kf ka (gKe pq pz tq rq), fm 13 (fRw cs rq RR RM RW RF RA RC), fm 8 (fPp cs pq PV), fo 13 (fTx cs tq TR TO TF TA) ip]) (px_runU (As := [.int 7, .int 0]) (rest := []) S (c_finish_Txp l D cs hx (TR ip) (fun _ _ => none) hp64 (TF ip) (TA ip) 7 0  (show TxOk ((TF ip) 4) ((TF ip) 5) ((TF ip) 8) ((TF ip) 9) ((TF ip) 17) ((TF ip) 21) ((TA ip) 2) from ⟨(by first | exact lk | exact lk_eq lk (by omega) | exact lk_mk (by omega)), ⟨by omega, by omega⟩, ⟨by omega, by omega⟩, ⟨by omega, by omega⟩, by omega, ⟨by first | exact oz_1b364b1c5f g0 | omega, by first | exact oz_02032f9386 g0 | omega⟩, by omega, hrt⟩) _) hT (pr := [wd_Ker cs hk kr (fun _ => none) kf ka (gKe pq pz tq rq), fm 13 (fRw cs rq RR RM RW RF RA RC), fm 8 (fPp cs pq PV), fo 13 (fTx cs tq TR TO TF TA) ip]) (pcs := [wd_Txp cs hx (TR ip) (fun k => if k = 3 then (some hp64) else none) (TF ip) (TA ip) (fun _ _ => none)]) hw px_X.tt (C := "HomeSystem$TextProcess") (x := ⟨"HomeSystem$AnyProcess", "finish", "(II)V"⟩) (px_recv hT hw 4 0 rfl rfl rfl) m8_89 m8_84 m8_86 m8_85 m8_88 m1_33 rfl q_HomeSystem_AnyProcess_finish ⟨Nat.le_of_ble_eq_true rfl, Nat.le_of_ble_eq_true rfl⟩ hl.1 rfl (Nat.le_of_ble_eq_true rfl) d_Ker_move_38 ⟨show 0 + 0 ≤ (5 * ndS 13 tq + 4 * ndS 13 rq + ndS 13 RM) from (by first | exact oz_9c199dfd7f | omega), show 0 + 0 ≤ (9804 * ndS 13 tq + 342 * ndS 13 rq + 36864 * ndS 13 RM) from (by first | exact oz_54615505fb | omega)⟩) hw hA (fun p106 H locs hp106 hw => ?_)
          obtain ⟨f104, a105, rfl, h114, e108, e109, e110, e111, e112, e113⟩ := hp106
          obtain ⟨lk, ⟨i2, i3⟩, ⟨i4, i5⟩, ⟨i6, i7⟩, i8, ⟨i9, i11⟩, i10, hrt⟩ := h114
          have e108 : (f104 9).toInt = ((TF ip) 9).toInt := e108
          have e109 : (f104 17).toInt = ((TF ip) 17).toInt := e109
          have e110 : (f104 21).toInt = 0 := e110
          have e111 : (f104 15).toInt = ((TF ip) 15).toInt := e111
          have e112 : (f104 20).toInt = ((TF ip) 20).toInt := e112
          have e113 : R_finish_Txp (7 : Int32) (0 : Int32) (TF ip) (TA ip) f104 a105 := e113
          have hw : pw D A s.heap H locs [wd_Ker cs hk kr (fun _ => none) kf ka (gKe pq pz tq rq), fm 13 (fRw cs rq RR RM RW RF RA RC), fm 8 (fPp cs pq PV), fo 13 (fTx cs tq TR TO TF TA) ip, wd_Txp cs hx (TR ip) (fun k => if k = 3 then (some hp64) else none) f104 a105 (fun _ _ => none)] := hw
          have hw := ftx_in0 (pr := [wd_Ker cs hk kr (fun _ => none) kf ka (gKe pq pz tq rq), fm 13 (fRw cs rq RR RM RW RF RA RC), fm 8 (fPp cs pq PV)]) hw hip hcu.1 hto64
          obtain ⟨TF115, hu_TF115⟩ : ∃ y : Nat → Nat → Int32, y = va_up TF ip f104 := ⟨_, rfl⟩
          obtain ⟨TA116, hu_TA116⟩ : ∃ y : Nat → Nat → Nat → Int32, y = va_up TA ip a105 := ⟨_, rfl⟩
          have hw : pw D A s.heap _ _ [wd_Ker cs hk kr (fun _ => none) kf ka (gKe pq pz tq rq), fm 13 (fRw cs rq RR RM RW RF RA RC), fm 8 (fPp cs pq PV), fm 13 (fTx cs tq TR TO TF115 TA116)] := (by rw [hu_TF115, hu_TA116]; exact hw)
          have hki : KnI pq PV pz tq rq TO TF115 TA116 RW RF := (by rw [hu_TF115, hu_TA116]; exact hki.upT (show TxN ip f104 a105 from ⟨(show TxOk (f104 4) (f104 5) (f104 8) (f104 9) (f104 17) (f104 21) (a105 2) from ⟨(by first | exact lk | exact lk_eq lk (by omega) | exact lk_mk (by omega)), ⟨by omega, by omega⟩, ⟨by omega, by omega⟩, ⟨by omega, by omega⟩, by omega, ⟨by omega, by omega⟩, by omega, hrt⟩), (show ((f104 15).toInt) = ((ip : Nat) : Int) from by omega), (show 0 ≤ (f104 20).toInt ∧ (f104 20).toInt ≤ 3 ∧ ((f104 20).toInt = 0 ∨ 3 * ((ip : Nat) : Int) + (f104 20).toInt ≤ 12) from by omega)⟩))
          have hz21_TF115 : (TF115 ip 21).toInt = (f104 21).toInt := (by rw [hu_TF115, va_up_s]; try rfl)
          have hw : pw D A s.heap _ _ [wd_Ker cs hk kr (fun _ => none) kf ka (gKe pq pz tq rq), fm 13 (fTx cs tq TR TO TF115 TA116), fm 13 (fRw cs rq RR RM RW RF RA RC), fm 8 (fPp cs pq PV)] := hw.sub [0, 3, 1, 2] rfl rfl
          exact pg_vret S hr hlk hAe hw (show 0 ≤ (5 * ndS 13 tq + 4 * ndS 13 rq + ndS 13 RM) from by first | exact oz_86e49526c7 | omega) (show 0 ≤ (9804 * ndS 13 tq + 342 * ndS 13 rq + 36864 * ndS 13 RM) from by first | exact oz_fc3b58e969 | omega) (⟨pz, tq, rq, ka, TR, TO, TF115, TA116, RR, RM, RW, RF, RA, RC, rfl, (show CuT pq PV tq TO ip hx from hcu), (show KnI pq PV pz tq rq TO TF115 TA116 RW RF from hki), (show RoI ka from hro), (show RmI rq RM from hrm), (show 0 + (5 * ndS 13 tq + 4 * ndS 13 rq + ndS 13 RM) ≤ 5 * ndS 13 tq + 4 * ndS 13 rq + ndS 13 RM from by first | exact oz_9d19b050ad | omega), (show 0 + (9804 * ndS 13 tq + 342 * ndS 13 rq + 36864 * ndS 13 RM) ≤ 9804 * ndS 13 tq + 342 * ndS 13 rq + 36864 * ndS 13 RM from by first | exact oz_b5592d0ae7 | omega)⟩) d_Ker_move_41
      · have nc96 : ¬ p0.toInt < (8 : Int) := mt (i_lt (x := p0) (y := 8)).mpr c96
        refine lv_aload_n S.x S.b d_Ker_move_17 rfl (lv_at hl 1 rfl) ?_
        refine lv_iconst (v := 2) S.x S.b d_Ker_move_18 (by decide) ?_
        refine lv_iconst (v := 0) S.x S.b d_Ker_move_19 (by decide) ?_
        refine px_callv (pr := [wd_Ker cs hk kr (fun _ => none) kf ka (gKe pq pz tq rq), fm 13 (fRw cs rq RR RM RW RF RA RC), fm 8 (fPp cs pq PV), fo 13 (fTx cs tq TR TO TF TA) ip]) (px_runU (As := [.int 2, .int 0]) (rest := []) S (c_finish_Txp l D cs hx (TR ip) (fun _ _ => none) hp64 (TF ip) (TA ip) 2 0  (show TxOk ((TF ip) 4) ((TF ip) 5) ((TF ip) 8) ((TF ip) 9) ((TF ip) 17) ((TF ip) 21) ((TA ip) 2) from ⟨(by first | exact lk | exact lk_eq lk (by omega) | exact lk_mk (by omega)), ⟨by omega, by omega⟩, ⟨by omega, by omega⟩, ⟨by omega, by omega⟩, by omega, ⟨by first | exact oz_1b364b1c5f g0 | omega, by first | exact oz_02032f9386 g0 | omega⟩, by omega, hrt⟩) _) hT (pr := [wd_Ker cs hk kr (fun _ => none) kf ka (gKe pq pz tq rq), fm 13 (fRw cs rq RR RM RW RF RA RC), fm 8 (fPp cs pq PV), fo 13 (fTx cs tq TR TO TF TA) ip]) (pcs := [wd_Txp cs hx (TR ip) (fun k => if k = 3 then (some hp64) else none) (TF ip) (TA ip) (fun _ _ => none)]) hw px_X.tt (C := "HomeSystem$TextProcess") (x := ⟨"HomeSystem$AnyProcess", "finish", "(II)V"⟩) (px_recv hT hw 4 0 rfl rfl rfl) m8_89 m8_84 m8_86 m8_85 m8_88 m1_33 rfl q_HomeSystem_AnyProcess_finish ⟨Nat.le_of_ble_eq_true rfl, Nat.le_of_ble_eq_true rfl⟩ hl.1 rfl (Nat.le_of_ble_eq_true rfl) d_Ker_move_20 ⟨show 0 + 0 ≤ (5 * ndS 13 tq + 4 * ndS 13 rq + ndS 13 RM) from (by first | exact oz_9c199dfd7f | omega), show 0 + 0 ≤ (9804 * ndS 13 tq + 342 * ndS 13 rq + 36864 * ndS 13 RM) from (by first | exact oz_54615505fb | omega)⟩) hw hA (fun p119 H locs hp119 hw => ?_)
        obtain ⟨f117, a118, rfl, h127, e121, e122, e123, e124, e125, e126⟩ := hp119
        obtain ⟨lk, ⟨i2, i3⟩, ⟨i4, i5⟩, ⟨i6, i7⟩, i8, ⟨i9, i11⟩, i10, hrt⟩ := h127
        have e121 : (f117 9).toInt = ((TF ip) 9).toInt := e121
        have e122 : (f117 17).toInt = ((TF ip) 17).toInt := e122
        have e123 : (f117 21).toInt = 0 := e123
        have e124 : (f117 15).toInt = ((TF ip) 15).toInt := e124
        have e125 : (f117 20).toInt = ((TF ip) 20).toInt := e125
        have e126 : R_finish_Txp (2 : Int32) (0 : Int32) (TF ip) (TA ip) f117 a118 := e126
        have hw : pw D A s.heap H locs [wd_Ker cs hk kr (fun _ => none) kf ka (gKe pq pz tq rq), fm 13 (fRw cs rq RR RM RW RF RA RC), fm 8 (fPp cs pq PV), fo 13 (fTx cs tq TR TO TF TA) ip, wd_Txp cs hx (TR ip) (fun k => if k = 3 then (some hp64) else none) f117 a118 (fun _ _ => none)] := hw
        have hw := ftx_in0 (pr := [wd_Ker cs hk kr (fun _ => none) kf ka (gKe pq pz tq rq), fm 13 (fRw cs rq RR RM RW RF RA RC), fm 8 (fPp cs pq PV)]) hw hip hcu.1 hto64
        obtain ⟨TF128, hu_TF128⟩ : ∃ y : Nat → Nat → Int32, y = va_up TF ip f117 := ⟨_, rfl⟩
        obtain ⟨TA129, hu_TA129⟩ : ∃ y : Nat → Nat → Nat → Int32, y = va_up TA ip a118 := ⟨_, rfl⟩
        have hw : pw D A s.heap _ _ [wd_Ker cs hk kr (fun _ => none) kf ka (gKe pq pz tq rq), fm 13 (fRw cs rq RR RM RW RF RA RC), fm 8 (fPp cs pq PV), fm 13 (fTx cs tq TR TO TF128 TA129)] := (by rw [hu_TF128, hu_TA129]; exact hw)
        have hki : KnI pq PV pz tq rq TO TF128 TA129 RW RF := (by rw [hu_TF128, hu_TA129]; exact hki.upT (show TxN ip f117 a118 from ⟨(show TxOk (f117 4) (f117 5) (f117 8) (f117 9) (f117 17) (f117 21) (a118 2) from ⟨(by first | exact lk | exact lk_eq lk (by omega) | exact lk_mk (by omega)), ⟨by omega, by omega⟩, ⟨by omega, by omega⟩, ⟨by omega, by omega⟩, by omega, ⟨by omega, by omega⟩, by omega, hrt⟩), (show ((f117 15).toInt) = ((ip : Nat) : Int) from by omega), (show 0 ≤ (f117 20).toInt ∧ (f117 20).toInt ≤ 3 ∧ ((f117 20).toInt = 0 ∨ 3 * ((ip : Nat) : Int) + (f117 20).toInt ≤ 12) from by omega)⟩))
        have hz21_TF128 : (TF128 ip 21).toInt = (f117 21).toInt := (by rw [hu_TF128, va_up_s]; try rfl)
        have hw : pw D A s.heap _ _ [wd_Ker cs hk kr (fun _ => none) kf ka (gKe pq pz tq rq), fm 13 (fTx cs tq TR TO TF128 TA129), fm 13 (fRw cs rq RR RM RW RF RA RC), fm 8 (fPp cs pq PV)] := hw.sub [0, 3, 1, 2] rfl rfl
        exact pg_vret S hr hlk hAe hw (show 0 ≤ (5 * ndS 13 tq + 4 * ndS 13 rq + ndS 13 RM) from by first | exact oz_86e49526c7 | omega) (show 0 ≤ (9804 * ndS 13 tq + 342 * ndS 13 rq + 36864 * ndS 13 RM) from by first | exact oz_fc3b58e969 | omega) (⟨pz, tq, rq, ka, TR, TO, TF128, TA129, RR, RM, RW, RF, RA, RC, rfl, (show CuT pq PV tq TO ip hx from hcu), (show KnI pq PV pz tq rq TO TF128 TA129 RW RF from hki), (show RoI ka from hro), (show RmI rq RM from hrm), (show 0 + (5 * ndS 13 tq + 4 * ndS 13 rq + ndS 13 RM) ≤ 5 * ndS 13 tq + 4 * ndS 13 rq + ndS 13 RM from by first | exact oz_9d19b050ad | omega), (show 0 + (9804 * ndS 13 tq + 342 * ndS 13 rq + 36864 * ndS 13 RM) ≤ 9804 * ndS 13 tq + 342 * ndS 13 rq + 36864 * ndS 13 RM from by first | exact oz_b5592d0ae7 | omega)⟩) d_Ker_move_23
set_option maxHeartbeats 4000000 in
set_option maxRecDepth 100000 in
theorem c_k_move_R (l : Launch) (D : va_G) (cs : Nat → ClassId) (hk : Nat) (kr : Nat → Nat) (pq : Nat → Option Nat) (kf : Nat → Int32) (PV : Nat → Pvs) (pz : Nat → Option Nat) (tq : Nat → Option Nat) (rq : Nat → Option Nat) (ka : Nat → Nat → Int32) (TR : Nat → Nat → Nat) (TO : Nat → Option Nat) (TF : Nat → Nat → Int32) (TA : Nat → Nat → Nat → Int32) (RR : Nat → Nat → Nat) (RM : Nat → Option Nat) (RW : Nat → Option Nat) (RF : Nat → Nat → Int32) (RA : Nat → Nat → Nat → Int32) (RC : Nat → Nat → Int32) (p0 : Int32) (ip hx : Nat) (g0 : (RF ip 14).toInt = 1) (hki : KnI pq PV pz tq rq TO TF TA RW RF) (hro : RoI ka) (hrm : RmI rq RM) (hip : ip < 13) (hcu : CuR pq PV rq RW ip hx) : MgV l y_Ker_move b_Ker_move 5 D cs 6 240 ((5 * ndS 13 tq + 4 * ndS 13 rq + ndS 13 RM)) ((9804 * ndS 13 tq + 342 * ndS 13 rq + 36864 * ndS 13 RM)) [.ref hk, .ref hx, .int p0] [wd_Ker cs hk kr (fun _ => none) kf ka (gKe pq pz tq rq), fm 13 (fTx cs tq TR TO TF TA), fm 13 (fRw cs rq RR RM RW RF RA RC), fm 8 (fPp cs pq PV)] (fun _ => True) (fun ps => ∃ (pz' : Nat → Option Nat) (tq' : Nat → Option Nat) (rq' : Nat → Option Nat) (ka' : Nat → Nat → Int32) (TR' : Nat → Nat → Nat) (TO' : Nat → Option Nat) (TF' : Nat → Nat → Int32) (TA' : Nat → Nat → Nat → Int32) (RR' : Nat → Nat → Nat) (RM' : Nat → Option Nat) (RW' : Nat → Option Nat) (RF' : Nat → Nat → Int32) (RA' : Nat → Nat → Nat → Int32) (RC' : Nat → Nat → Int32), (ps.1 = [wd_Ker cs hk kr (fun _ => none) kf ka' (gKe pq pz' tq' rq'), fm 13 (fTx cs tq' TR' TO' TF' TA'), fm 13 (fRw cs rq' RR' RM' RW' RF' RA' RC'), fm 8 (fPp cs pq PV)]) ∧ (CuR pq PV rq' RW' ip hx) ∧ (KnI pq PV pz' tq' rq' TO' TF' TA' RW' RF') ∧ (RoI ka') ∧ (RmI rq' RM') ∧ (ps.2.1 + (5 * ndS 13 tq' + 4 * ndS 13 rq' + ndS 13 RM') ≤ 5 * ndS 13 tq + 4 * ndS 13 rq + ndS 13 RM) ∧ (ps.2.2 + (9804 * ndS 13 tq' + 342 * ndS 13 rq' + 36864 * ndS 13 RM') ≤ 9804 * ndS 13 tq + 342 * ndS 13 rq + 36864 * ndS 13 RM)) := by
  refine pg_enter (by decide) (Nat.le_of_ble_eq_true rfl) ?_
  intro p e s m below meth c A ls hAe S hr hlk hnm hA hT hX hw hl
  have hl : lv_has ls 5 [(0, .ref hk), (1, .ref hx), (2, .int p0)] := hl
  have lp0 := Int32.le_toInt p0
  have up0 := Int32.toInt_lt p0
  have cstm1 : ((-1) : Int32).toInt = (-1) := rfl
  have cst0 : (0 : Int32).toInt = 0 := rfl
  have cst2 : (2 : Int32).toInt = 2 := rfl
  have cst7 : (7 : Int32).toInt = 7 := rfl
  have cst8 : (8 : Int32).toInt = 8 := rfl
  have cst16 : (16 : Int32).toInt = 16 := rfl
  have J45 : ∀ (n_45 : Nat) (ce_45 sl_45 : Nat) (pz_45 : Nat → Option Nat) (tq_45 : Nat → Option Nat) (rq_45 : Nat → Option Nat) (ka_45 : Nat → Nat → Int32) (TR_45 : Nat → Nat → Nat) (TO_45 : Nat → Option Nat) (TF_45 : Nat → Nat → Int32) (TA_45 : Nat → Nat → Nat → Int32) (RR_45 : Nat → Nat → Nat) (RM_45 : Nat → Option Nat) (RW_45 : Nat → Option Nat) (RF_45 : Nat → Nat → Int32) (RA_45 : Nat → Nat → Nat → Int32) (RC_45 : Nat → Nat → Int32) (x45_3 x45_4 : Int32) (H : Heap) (locs : List Loc) (ls : Array Slot), (KnI pq PV pz_45 tq_45 rq_45 TO_45 TF_45 TA_45 RW_45 RF_45) → (RoI ka_45) → (RmI rq_45 RM_45) → (CuR pq PV rq_45 RW_45 ip hx) → (0 ≤ x45_4.toInt) → (x45_4.toInt ≤ 16) → (x45_3.toInt ≤ 16) → (0 ≤ p0.toInt) → (p0.toInt ≤ 7) → ((RF_45 ip 14).toInt = 1) → (ce_45 + (5 * ndS 13 tq_45 + 4 * ndS 13 rq_45 + ndS 13 RM_45) ≤ 5 * ndS 13 tq + 4 * ndS 13 rq + ndS 13 RM) → (sl_45 + (9804 * ndS 13 tq_45 + 342 * ndS 13 rq_45 + 36864 * ndS 13 RM_45) ≤ 9804 * ndS 13 tq + 342 * ndS 13 rq + 36864 * ndS 13 RM) → x45_3.toInt - x45_4.toInt + 4294967297 < (n_45 : Int) → pw D A s.heap H locs [wd_Ker cs hk kr (fun _ => none) kf ka_45 (gKe pq pz_45 tq_45 rq_45), fm 13 (fTx cs tq_45 TR_45 TO_45 TF_45 TA_45), fm 13 (fRw cs rq_45 RR_45 RM_45 RW_45 RF_45 RA_45 RC_45), fm 8 (fPp cs pq PV)] → lv_has ls 5 [(0, .ref hk), (1, .ref hx), (2, .int p0), (3, .int x45_3), (4, .int x45_4)] → W p l e { frames := 6, cells := (5 * ndS 13 tq + 4 * ndS 13 rq + ndS 13 RM), slots := (9804 * ndS 13 tq + 342 * ndS 13 rq + 36864 * ndS 13 RM), locals := 240 } s m [.ref hk, .ref hx, .int p0].toArray below meth c H locs ce_45 sl_45 (MQ below (va_Qv (fun ps => ∃ (pz' : Nat → Option Nat) (tq' : Nat → Option Nat) (rq' : Nat → Option Nat) (ka' : Nat → Nat → Int32) (TR' : Nat → Nat → Nat) (TO' : Nat → Option Nat) (TF' : Nat → Nat → Int32) (TA' : Nat → Nat → Nat → Int32) (RR' : Nat → Nat → Nat) (RM' : Nat → Option Nat) (RW' : Nat → Option Nat) (RF' : Nat → Nat → Int32) (RA' : Nat → Nat → Nat → Int32) (RC' : Nat → Nat → Int32), (ps.1 = [wd_Ker cs hk kr (fun _ => none) kf ka' (gKe pq pz' tq' rq'), fm 13 (fTx cs tq' TR' TO' TF' TA'), fm 13 (fRw cs rq' RR' RM' RW' RF' RA' RC'), fm 8 (fPp cs pq PV)]) ∧ (CuR pq PV rq' RW' ip hx) ∧ (KnI pq PV pz' tq' rq' TO' TF' TA' RW' RF') ∧ (RoI ka') ∧ (RmI rq' RM') ∧ (ps.2.1 + (5 * ndS 13 tq' + 4 * ndS 13 rq' + ndS 13 RM') ≤ 5 * ndS 13 tq + 4 * ndS 13 rq + ndS 13 RM) ∧ (ps.2.2 + (9804 * ndS 13 tq' + 342 * ndS 13 rq' + 36864 * ndS 13 RM') ≤ 9804 * ndS 13 tq + 342 * ndS 13 rq + 36864 * ndS 13 RM)) (pg_B D (va_A ([wd_Ker cs hk kr (fun _ => none) kf ka (gKe pq pz tq rq), fm 13 (fTx cs tq TR TO TF TA), fm 13 (fRw cs rq RR RM RW RF RA RC), fm 8 (fPp cs pq PV)] : List va_W).flatten s.heap.size) s.heap.size (tot s.heap)) (va_A ([wd_Ker cs hk kr (fun _ => none) kf ka (gKe pq pz tq rq), fm 13 (fTx cs tq TR TO TF TA), fm 13 (fRw cs rq RR RM RW RF RA RC), fm 8 (fPp cs pq PV)] : List va_W).flatten s.heap.size)) [.ref hk, .ref hx, .int p0].toArray s (5 * ndS 13 tq + 4 * ndS 13 rq + ndS 13 RM) (9804 * ndS 13 tq + 342 * ndS 13 rq + 36864 * ndS 13 RM) A) (F0 m 45 ls []) := by
    intro  n_45
    induction n_45 with
    | zero =>
      intro ce_45 sl_45 pz_45 tq_45 rq_45 ka_45 TR_45 TO_45 TF_45 TA_45 RR_45 RM_45 RW_45 RF_45 RA_45 RC_45 x45_3 x45_4 H locs ls k45_0 k45_1 k45_2 k45_3 k45_4 k45_5 k45_6 k45_7 k45_8 k45_9 k45_10 k45_11 hm hw hl
      have lx45_3 := Int32.le_toInt x45_3
      have ux45_3 := Int32.toInt_lt x45_3
      have lx45_4 := Int32.le_toInt x45_4
      have ux45_4 := Int32.toInt_lt x45_4
      have hki := k45_0
      have hro := k45_1
      have hrm := k45_2
      obtain ⟨j1, hp1, hj1, hjq1, hto1⟩ := k45_3.2
      exact absurd hm (by omega)
    | succ n_45 ih45 =>
      intro ce_45 sl_45 pz_45 tq_45 rq_45 ka_45 TR_45 TO_45 TF_45 TA_45 RR_45 RM_45 RW_45 RF_45 RA_45 RC_45 x45_3 x45_4 H locs ls k45_0 k45_1 k45_2 k45_3 k45_4 k45_5 k45_6 k45_7 k45_8 k45_9 k45_10 k45_11 hm hw hl
      have lx45_3 := Int32.le_toInt x45_3
      have ux45_3 := Int32.toInt_lt x45_3
      have lx45_4 := Int32.le_toInt x45_4
      have ux45_4 := Int32.toInt_lt x45_4
      have hki := k45_0
      have hro := k45_1
      have hrm := k45_2
      obtain ⟨j2, hp2, hj2, hjq2, hto2⟩ := k45_3.2
      refine lv_iload S.x S.b d_Ker_move_45 (lv_at hl 4 rfl) ?_
      refine lv_iload_n S.x S.b d_Ker_move_47 rfl (lv_at hl 3 rfl) ?_
      refine lv_icmp_ge (tgt := 112) S.x S.b d_Ker_move_48 (by decide) (fun c3 => ?_) (fun c3 => ?_)
      · have nc3 : x45_3.toInt ≤ x45_4.toInt := (i_le (x := x45_3) (y := x45_4)).mp c3
        refine lv_aload_n S.x S.b d_Ker_move_112 rfl (lv_at hl 1 rfl) ?_
        refine lv_iconst (v := 0) S.x S.b d_Ker_move_113 (by decide) ?_
        have hw : pw D A s.heap _ _ [wd_Ker cs hk kr (fun _ => none) kf ka_45 (gKe pq pz_45 tq_45 rq_45), fm 13 (fTx cs tq_45 TR_45 TO_45 TF_45 TA_45), fm 8 (fPp cs pq PV), fm 13 (fRw cs rq_45 RR_45 RM_45 RW_45 RF_45 RA_45 RC_45)] := hw.sub [0, 1, 3, 2] rfl rfl
        have hw : pw D A s.heap _ _ [wd_Ker cs hk kr (fun _ => none) kf ka_45 (gKe pq pz_45 tq_45 rq_45), fm 13 (fTx cs tq_45 TR_45 TO_45 TF_45 TA_45), fm 8 (fPp cs pq PV), fo 13 (fRw cs rq_45 RR_45 RM_45 RW_45 RF_45 RA_45 RC_45) ip, wd_Raw cs hx (RR_45 ip) (fun k => if k = 2 then (RM_45 ip) else if k = 4 then (some ((PV j2).r 1)) else none) (RF_45 ip) (RA_45 ip) (fun _ _ => none), nA cs (RM_45 ip) 36864 (RC_45 ip)] := frw_out (pr := [wd_Ker cs hk kr (fun _ => none) kf ka_45 (gKe pq pz_45 tq_45 rq_45), fm 13 (fTx cs tq_45 TR_45 TO_45 TF_45 TA_45), fm 8 (fPp cs pq PV)]) hw hip k45_3.1 hto2
        have hng5 := ndS_ge 13 RM_45 ip hip
        have hrn5 : RwN ip (RF_45 ip) := hki.2.2.1 ip hip _ k45_3.1
        have hro5 := hrn5.1
        unfold RwO at hro5
        have hid5 := hrn5.2.1
        have hch5 := hrn5.2.2
        unfold KcI at hch5
        have hw : pw D A s.heap _ _ [wd_Ker cs hk kr (fun _ => none) kf ka_45 (gKe pq pz_45 tq_45 rq_45), fm 13 (fTx cs tq_45 TR_45 TO_45 TF_45 TA_45), fm 8 (fPp cs pq PV), fo 13 (fRw cs rq_45 RR_45 RM_45 RW_45 RF_45 RA_45 RC_45) ip, nA cs (RM_45 ip) 36864 (RC_45 ip), wd_Raw cs hx (RR_45 ip) (fun k => if k = 2 then (RM_45 ip) else if k = 4 then (some ((PV j2).r 1)) else none) (RF_45 ip) (RA_45 ip) (fun _ _ => none)] := hw.sub [0, 1, 2, 3, 5, 4] rfl rfl
        refine px_callv (pr := [wd_Ker cs hk kr (fun _ => none) kf ka_45 (gKe pq pz_45 tq_45 rq_45), fm 13 (fTx cs tq_45 TR_45 TO_45 TF_45 TA_45), fm 8 (fPp cs pq PV), fo 13 (fRw cs rq_45 RR_45 RM_45 RW_45 RF_45 RA_45 RC_45) ip, nA cs (RM_45 ip) 36864 (RC_45 ip)]) (px_runA (As := [.int 0]) (rest := []) S (c_Raw_answer l D cs hx (RR_45 ip) (fun _ _ => none) (RM_45 ip) (some ((PV j2).r 1)) (RF_45 ip) (RA_45 ip) 0  (show 1 ≤ ((RF_45 ip) 7).toInt from by omega) _) hT (pr := [wd_Ker cs hk kr (fun _ => none) kf ka_45 (gKe pq pz_45 tq_45 rq_45), fm 13 (fTx cs tq_45 TR_45 TO_45 TF_45 TA_45), fm 8 (fPp cs pq PV), fo 13 (fRw cs rq_45 RR_45 RM_45 RW_45 RF_45 RA_45 RC_45) ip, nA cs (RM_45 ip) 36864 (RC_45 ip)]) (pcs := [wd_Raw cs hx (RR_45 ip) (fun k => if k = 2 then (RM_45 ip) else if k = 4 then (some ((PV j2).r 1)) else none) (RF_45 ip) (RA_45 ip) (fun _ _ => none)]) hw px_X.tt (C := "HomeSystem$RawProcess") (owner := "HomeSystem$AnyProcess") (x := ⟨"HomeSystem$AnyProcess", "answer", "(I)V"⟩) (px_recv hT hw 5 0 rfl rfl rfl) m8_72 m8_67 m8_69 m8_71 m8_70 m1_34 m8_68n ⟨by decide, by decide⟩ rfl q_Raw_answer ⟨Nat.le_of_ble_eq_true rfl, Nat.le_of_ble_eq_true rfl⟩ hl.1 rfl (Nat.le_of_ble_eq_true rfl) d_Ker_move_114 ⟨show ce_45 + 0 ≤ (5 * ndS 13 tq + 4 * ndS 13 rq + ndS 13 RM) from (by first | exact oz_3e0efcc333 k45_10 | omega), show sl_45 + 0 ≤ (9804 * ndS 13 tq + 342 * ndS 13 rq + 36864 * ndS 13 RM) from (by first | exact oz_93e1379802 k45_11 | omega)⟩) hw hA (fun p8 H locs hp8 hw => ?_)
        obtain ⟨f6, a7, rfl, e10, e11, e12, e13, e14, e15⟩ := hp8
        have e10 : (f6 7).toInt = ((RF_45 ip) 7).toInt - 1 := e10
        have e11 : (f6 8).toInt = ((RF_45 ip) 8).toInt := e11
        have e12 : (f6 10).toInt = ((RF_45 ip) 10).toInt := e12
        have e13 : (f6 13).toInt = ((RF_45 ip) 13).toInt := e13
        have e14 : (f6 14).toInt = 0 := e14
        have e15 : (f6 11).toInt = ((RF_45 ip) 11).toInt := e15
        have hw : pw D A s.heap H locs [wd_Ker cs hk kr (fun _ => none) kf ka_45 (gKe pq pz_45 tq_45 rq_45), fm 13 (fTx cs tq_45 TR_45 TO_45 TF_45 TA_45), fm 8 (fPp cs pq PV), fo 13 (fRw cs rq_45 RR_45 RM_45 RW_45 RF_45 RA_45 RC_45) ip, nA cs (RM_45 ip) 36864 (RC_45 ip), wd_Raw cs hx (RR_45 ip) (fun k => if k = 2 then (RM_45 ip) else if k = 4 then (some ((PV j2).r 1)) else none) f6 a7 (fun _ _ => none)] := hw
        have hw : pw D A s.heap _ _ [wd_Ker cs hk kr (fun _ => none) kf ka_45 (gKe pq pz_45 tq_45 rq_45), fm 13 (fTx cs tq_45 TR_45 TO_45 TF_45 TA_45), fm 8 (fPp cs pq PV), fo 13 (fRw cs rq_45 RR_45 RM_45 RW_45 RF_45 RA_45 RC_45) ip, wd_Raw cs hx (RR_45 ip) (fun k => if k = 2 then (RM_45 ip) else if k = 4 then (some ((PV j2).r 1)) else none) f6 a7 (fun _ _ => none), nA cs (RM_45 ip) 36864 (RC_45 ip)] := hw.sub [0, 1, 2, 3, 5, 4] rfl rfl
        have hw := frw_in0 (pr := [wd_Ker cs hk kr (fun _ => none) kf ka_45 (gKe pq pz_45 tq_45 rq_45), fm 13 (fTx cs tq_45 TR_45 TO_45 TF_45 TA_45), fm 8 (fPp cs pq PV)]) hw hip k45_3.1 hto2
        obtain ⟨RM16, hu_RM16⟩ : ∃ y : Nat → Option Nat, y = va_up RM_45 ip (RM_45 ip) := ⟨_, rfl⟩
        obtain ⟨RF17, hu_RF17⟩ : ∃ y : Nat → Nat → Int32, y = va_up RF_45 ip f6 := ⟨_, rfl⟩
        obtain ⟨RA18, hu_RA18⟩ : ∃ y : Nat → Nat → Nat → Int32, y = va_up RA_45 ip a7 := ⟨_, rfl⟩
        obtain ⟨RC19, hu_RC19⟩ : ∃ y : Nat → Nat → Int32, y = va_up RC_45 ip (RC_45 ip) := ⟨_, rfl⟩
        have hw : pw D A s.heap _ _ [wd_Ker cs hk kr (fun _ => none) kf ka_45 (gKe pq pz_45 tq_45 rq_45), fm 13 (fTx cs tq_45 TR_45 TO_45 TF_45 TA_45), fm 8 (fPp cs pq PV), fm 13 (fRw cs rq_45 RR_45 RM16 RW_45 RF17 RA18 RC19)] := (by rw [hu_RM16, hu_RF17, hu_RA18, hu_RC19]; exact hw)
        have hki : KnI pq PV pz_45 tq_45 rq_45 TO_45 TF_45 TA_45 RW_45 RF17 := (by rw [hu_RF17]; exact hki.upR (show RwN ip f6 from ⟨(show (0 ≤ (f6 7).toInt ∧ (f6 7).toInt ≤ 1600) ∧ (0 ≤ (f6 10).toInt ∧ (f6 10).toInt + (f6 7).toInt ≤ 1600) ∧ ((f6 14).toInt = 0 ∨ (f6 14).toInt = 1) ∧ ((f6 14).toInt = 1 → 1 ≤ (f6 7).toInt) from by omega), (show ((f6 8).toInt) = ((ip : Nat) : Int) from by omega), (show 0 ≤ (f6 13).toInt ∧ (f6 13).toInt ≤ 3 ∧ ((f6 13).toInt = 0 ∨ 3 * ((ip : Nat) : Int) + (f6 13).toInt ≤ 12) from by omega)⟩))
        have hrm : RmI rq_45 RM16 := (by rw [hu_RM16]; exact hrm.up k45_3.1)
        have hnd_RM16 := ndS_up 13 RM_45 ip (RM_45 ip) hip; rw [← hu_RM16] at hnd_RM16
        have hz14_RF17 : (RF17 ip 14).toInt = (f6 14).toInt := (by rw [hu_RF17, va_up_s]; try rfl)
        have hw : pw D A s.heap _ _ [wd_Ker cs hk kr (fun _ => none) kf ka_45 (gKe pq pz_45 tq_45 rq_45), fm 13 (fTx cs tq_45 TR_45 TO_45 TF_45 TA_45), fm 13 (fRw cs rq_45 RR_45 RM16 RW_45 RF17 RA18 RC19), fm 8 (fPp cs pq PV)] := hw.sub [0, 1, 3, 2] rfl rfl
        exact pg_vret S hr hlk hAe hw (show ce_45 ≤ (5 * ndS 13 tq + 4 * ndS 13 rq + ndS 13 RM) from by first | exact oz_dca5c4e7e4 k45_10 | omega) (show sl_45 ≤ (9804 * ndS 13 tq + 342 * ndS 13 rq + 36864 * ndS 13 RM) from by first | exact oz_f7eb847e67 k45_11 | omega) (⟨pz_45, tq_45, rq_45, ka_45, TR_45, TO_45, TF_45, TA_45, RR_45, RM16, RW_45, RF17, RA18, RC19, rfl, (show CuR pq PV rq_45 RW_45 ip hx from k45_3), (show KnI pq PV pz_45 tq_45 rq_45 TO_45 TF_45 TA_45 RW_45 RF17 from hki), (show RoI ka_45 from hro), (show RmI rq_45 RM16 from hrm), (show ce_45 + (5 * ndS 13 tq_45 + 4 * ndS 13 rq_45 + ndS 13 RM16) ≤ 5 * ndS 13 tq + 4 * ndS 13 rq + ndS 13 RM from by omega), (show sl_45 + (9804 * ndS 13 tq_45 + 342 * ndS 13 rq_45 + 36864 * ndS 13 RM16) ≤ 9804 * ndS 13 tq + 342 * ndS 13 rq + 36864 * ndS 13 RM from by omega)⟩) d_Ker_move_117
      · have nc3 : ¬ x45_3.toInt ≤ x45_4.toInt := mt (i_le (x := x45_3) (y := x45_4)).mpr c3
        refine lv_iload S.x S.b d_Ker_move_51 (lv_at hl 4 rfl) ?_
        refine lv_bipush (v := 16) S.x S.b d_Ker_move_53 (by decide) ?_
        refine lv_icmp_ge (tgt := 112) S.x S.b d_Ker_move_55 (by decide) (fun c20 => ?_) (fun c20 => ?_)
        · have nc20 : (16 : Int) ≤ x45_4.toInt := (i_le (x := 16) (y := x45_4)).mp c20
          refine lv_aload_n S.x S.b d_Ker_move_112 rfl (lv_at hl 1 rfl) ?_
          refine lv_iconst (v := 0) S.x S.b d_Ker_move_113 (by decide) ?_
          have hw : pw D A s.heap _ _ [wd_Ker cs hk kr (fun _ => none) kf ka_45 (gKe pq pz_45 tq_45 rq_45), fm 13 (fTx cs tq_45 TR_45 TO_45 TF_45 TA_45), fm 8 (fPp cs pq PV), fm 13 (fRw cs rq_45 RR_45 RM_45 RW_45 RF_45 RA_45 RC_45)] := hw.sub [0, 1, 3, 2] rfl rfl
          have hw : pw D A s.heap _ _ [wd_Ker cs hk kr (fun _ => none) kf ka_45 (gKe pq pz_45 tq_45 rq_45), fm 13 (fTx cs tq_45 TR_45 TO_45 TF_45 TA_45), fm 8 (fPp cs pq PV), fo 13 (fRw cs rq_45 RR_45 RM_45 RW_45 RF_45 RA_45 RC_45) ip, wd_Raw cs hx (RR_45 ip) (fun k => if k = 2 then (RM_45 ip) else if k = 4 then (some ((PV j2).r 1)) else none) (RF_45 ip) (RA_45 ip) (fun _ _ => none), nA cs (RM_45 ip) 36864 (RC_45 ip)] := frw_out (pr := [wd_Ker cs hk kr (fun _ => none) kf ka_45 (gKe pq pz_45 tq_45 rq_45), fm 13 (fTx cs tq_45 TR_45 TO_45 TF_45 TA_45), fm 8 (fPp cs pq PV)]) hw hip k45_3.1 hto2
          have hng22 := ndS_ge 13 RM_45 ip hip
          have hrn22 : RwN ip (RF_45 ip) := hki.2.2.1 ip hip _ k45_3.1
          have hro22 := hrn22.1
          unfold RwO at hro22
          have hid22 := hrn22.2.1
          have hch22 := hrn22.2.2
          unfold KcI at hch22
          have hw : pw D A s.heap _ _ [wd_Ker cs hk kr (fun _ => none) kf ka_45 (gKe pq pz_45 tq_45 rq_45), fm 13 (fTx cs tq_45 TR_45 TO_45 TF_45 TA_45), fm 8 (fPp cs pq PV), fo 13 (fRw cs rq_45 RR_45 RM_45 RW_45 RF_45 RA_45 RC_45) ip, nA cs (RM_45 ip) 36864 (RC_45 ip), wd_Raw cs hx (RR_45 ip) (fun k => if k = 2 then (RM_45 ip) else if k = 4 then (some ((PV j2).r 1)) else none) (RF_45 ip) (RA_45 ip) (fun _ _ => none)] := hw.sub [0, 1, 2, 3, 5, 4] rfl rfl
          refine px_callv (pr := [wd_Ker cs hk kr (fun _ => none) kf ka_45 (gKe pq pz_45 tq_45 rq_45), fm 13 (fTx cs tq_45 TR_45 TO_45 TF_45 TA_45), fm 8 (fPp cs pq PV), fo 13 (fRw cs rq_45 RR_45 RM_45 RW_45 RF_45 RA_45 RC_45) ip, nA cs (RM_45 ip) 36864 (RC_45 ip)]) (px_runA (As := [.int 0]) (rest := []) S (c_Raw_answer l D cs hx (RR_45 ip) (fun _ _ => none) (RM_45 ip) (some ((PV j2).r 1)) (RF_45 ip) (RA_45 ip) 0  (show 1 ≤ ((RF_45 ip) 7).toInt from by omega) _) hT (pr := [wd_Ker cs hk kr (fun _ => none) kf ka_45 (gKe pq pz_45 tq_45 rq_45), fm 13 (fTx cs tq_45 TR_45 TO_45 TF_45 TA_45), fm 8 (fPp cs pq PV), fo 13 (fRw cs rq_45 RR_45 RM_45 RW_45 RF_45 RA_45 RC_45) ip, nA cs (RM_45 ip) 36864 (RC_45 ip)]) (pcs := [wd_Raw cs hx (RR_45 ip) (fun k => if k = 2 then (RM_45 ip) else if k = 4 then (some ((PV j2).r 1)) else none) (RF_45 ip) (RA_45 ip) (fun _ _ => none)]) hw px_X.tt (C := "HomeSystem$RawProcess") (owner := "HomeSystem$AnyProcess") (x := ⟨"HomeSystem$AnyProcess", "answer", "(I)V"⟩) (px_recv hT hw 5 0 rfl rfl rfl) m8_72 m8_67 m8_69 m8_71 m8_70 m1_34 m8_68n ⟨by decide, by decide⟩ rfl q_Raw_answer ⟨Nat.le_of_ble_eq_true rfl, Nat.le_of_ble_eq_true rfl⟩ hl.1 rfl (Nat.le_of_ble_eq_true rfl) d_Ker_move_114 ⟨show ce_45 + 0 ≤ (5 * ndS 13 tq + 4 * ndS 13 rq + ndS 13 RM) from (by first | exact oz_3e0efcc333 k45_10 | omega), show sl_45 + 0 ≤ (9804 * ndS 13 tq + 342 * ndS 13 rq + 36864 * ndS 13 RM) from (by first | exact oz_93e1379802 k45_11 | omega)⟩) hw hA (fun p25 H locs hp25 hw => ?_)
          obtain ⟨f23, a24, rfl, e27, e28, e29, e30, e31, e32⟩ := hp25
          have e27 : (f23 7).toInt = ((RF_45 ip) 7).toInt - 1 := e27
          have e28 : (f23 8).toInt = ((RF_45 ip) 8).toInt := e28
          have e29 : (f23 10).toInt = ((RF_45 ip) 10).toInt := e29
          have e30 : (f23 13).toInt = ((RF_45 ip) 13).toInt := e30
          have e31 : (f23 14).toInt = 0 := e31
          have e32 : (f23 11).toInt = ((RF_45 ip) 11).toInt := e32
          have hw : pw D A s.heap H locs [wd_Ker cs hk kr (fun _ => none) kf ka_45 (gKe pq pz_45 tq_45 rq_45), fm 13 (fTx cs tq_45 TR_45 TO_45 TF_45 TA_45), fm 8 (fPp cs pq PV), fo 13 (fRw cs rq_45 RR_45 RM_45 RW_45 RF_45 RA_45 RC_45) ip, nA cs (RM_45 ip) 36864 (RC_45 ip), wd_Raw cs hx (RR_45 ip) (fun k => if k = 2 then (RM_45 ip) else if k = 4 then (some ((PV j2).r 1)) else none) f23 a24 (fun _ _ => none)] := hw
          have hw : pw D A s.heap _ _ [wd_Ker cs hk kr (fun _ => none) kf ka_45 (gKe pq pz_45 tq_45 rq_45), fm 13 (fTx cs tq_45 TR_45 TO_45 TF_45 TA_45), fm 8 (fPp cs pq PV), fo 13 (fRw cs rq_45 RR_45 RM_45 RW_45 RF_45 RA_45 RC_45) ip, wd_Raw cs hx (RR_45 ip) (fun k => if k = 2 then (RM_45 ip) else if k = 4 then (some ((PV j2).r 1)) else none) f23 a24 (fun _ _ => none), nA cs (RM_45 ip) 36864 (RC_45 ip)] := hw.sub [0, 1, 2, 3, 5, 4] rfl rfl
          have hw := frw_in0 (pr := [wd_Ker cs hk kr (fun _ => none) kf ka_45 (gKe pq pz_45 tq_45 rq_45), fm 13 (fTx cs tq_45 TR_45 TO_45 TF_45 TA_45), fm 8 (fPp cs pq PV)]) hw hip k45_3.1 hto2
          obtain ⟨RM33, hu_RM33⟩ : ∃ y : Nat → Option Nat, y = va_up RM_45 ip (RM_45 ip) := ⟨_, rfl⟩
          obtain ⟨RF34, hu_RF34⟩ : ∃ y : Nat → Nat → Int32, y = va_up RF_45 ip f23 := ⟨_, rfl⟩
          obtain ⟨RA35, hu_RA35⟩ : ∃ y : Nat → Nat → Nat → Int32, y = va_up RA_45 ip a24 := ⟨_, rfl⟩
          obtain ⟨RC36, hu_RC36⟩ : ∃ y : Nat → Nat → Int32, y = va_up RC_45 ip (RC_45 ip) := ⟨_, rfl⟩
          have hw : pw D A s.heap _ _ [wd_Ker cs hk kr (fun _ => none) kf ka_45 (gKe pq pz_45 tq_45 rq_45), fm 13 (fTx cs tq_45 TR_45 TO_45 TF_45 TA_45), fm 8 (fPp cs pq PV), fm 13 (fRw cs rq_45 RR_45 RM33 RW_45 RF34 RA35 RC36)] := (by rw [hu_RM33, hu_RF34, hu_RA35, hu_RC36]; exact hw)
          have hki : KnI pq PV pz_45 tq_45 rq_45 TO_45 TF_45 TA_45 RW_45 RF34 := (by rw [hu_RF34]; exact hki.upR (show RwN ip f23 from ⟨(show (0 ≤ (f23 7).toInt ∧ (f23 7).toInt ≤ 1600) ∧ (0 ≤ (f23 10).toInt ∧ (f23 10).toInt + (f23 7).toInt ≤ 1600) ∧ ((f23 14).toInt = 0 ∨ (f23 14).toInt = 1) ∧ ((f23 14).toInt = 1 → 1 ≤ (f23 7).toInt) from by omega), (show ((f23 8).toInt) = ((ip : Nat) : Int) from by omega), (show 0 ≤ (f23 13).toInt ∧ (f23 13).toInt ≤ 3 ∧ ((f23 13).toInt = 0 ∨ 3 * ((ip : Nat) : Int) + (f23 13).toInt ≤ 12) from by omega)⟩))
          have hrm : RmI rq_45 RM33 := (by rw [hu_RM33]; exact hrm.up k45_3.1)
          have hnd_RM33 := ndS_up 13 RM_45 ip (RM_45 ip) hip; rw [← hu_RM33] at hnd_RM33
          have hz14_RF34 : (RF34 ip 14).toInt = (f23 14).toInt := (by rw [hu_RF34, va_up_s]; try rfl)
          have hw : pw D A s.heap _ _ [wd_Ker cs hk kr (fun _ => none) kf ka_45 (gKe pq pz_45 tq_45 rq_45), fm 13 (fTx cs tq_45 TR_45 TO_45 TF_45 TA_45), fm 13 (fRw cs rq_45 RR_45 RM33 RW_45 RF34 RA35 RC36), fm 8 (fPp cs pq PV)] := hw.sub [0, 1, 3, 2] rfl rfl
          exact pg_vret S hr hlk hAe hw (show ce_45 ≤ (5 * ndS 13 tq + 4 * ndS 13 rq + ndS 13 RM) from by first | exact oz_dca5c4e7e4 k45_10 | omega) (show sl_45 ≤ (9804 * ndS 13 tq + 342 * ndS 13 rq + 36864 * ndS 13 RM) from by first | exact oz_f7eb847e67 k45_11 | omega) (⟨pz_45, tq_45, rq_45, ka_45, TR_45, TO_45, TF_45, TA_45, RR_45, RM33, RW_45, RF34, RA35, RC36, rfl, (show CuR pq PV rq_45 RW_45 ip hx from k45_3), (show KnI pq PV pz_45 tq_45 rq_45 TO_45 TF_45 TA_45 RW_45 RF34 from hki), (show RoI ka_45 from hro), (show RmI rq_45 RM33 from hrm), (show ce_45 + (5 * ndS 13 tq_45 + 4 * ndS 13 rq_45 + ndS 13 RM33) ≤ 5 * ndS 13 tq + 4 * ndS 13 rq + ndS 13 RM from by omega), (show sl_45 + (9804 * ndS 13 tq_45 + 342 * ndS 13 rq_45 + 36864 * ndS 13 RM33) ≤ 9804 * ndS 13 tq + 342 * ndS 13 rq + 36864 * ndS 13 RM from by omega)⟩) d_Ker_move_117
        · have nc20 : ¬ (16 : Int) ≤ x45_4.toInt := mt (i_le (x := 16) (y := x45_4)).mpr c20
          refine lv_aload_n S.x S.b d_Ker_move_58 rfl (lv_at hl 1 rfl) ?_
          have hw : pw D A s.heap _ _ [wd_Ker cs hk kr (fun _ => none) kf ka_45 (gKe pq pz_45 tq_45 rq_45), fm 13 (fTx cs tq_45 TR_45 TO_45 TF_45 TA_45), fm 8 (fPp cs pq PV), fm 13 (fRw cs rq_45 RR_45 RM_45 RW_45 RF_45 RA_45 RC_45)] := hw.sub [0, 1, 3, 2] rfl rfl
          have hw : pw D A s.heap _ _ [wd_Ker cs hk kr (fun _ => none) kf ka_45 (gKe pq pz_45 tq_45 rq_45), fm 13 (fTx cs tq_45 TR_45 TO_45 TF_45 TA_45), fm 8 (fPp cs pq PV), fo 13 (fRw cs rq_45 RR_45 RM_45 RW_45 RF_45 RA_45 RC_45) ip, wd_Raw cs hx (RR_45 ip) (fun k => if k = 2 then (RM_45 ip) else if k = 4 then (some ((PV j2).r 1)) else none) (RF_45 ip) (RA_45 ip) (fun _ _ => none), nA cs (RM_45 ip) 36864 (RC_45 ip)] := frw_out (pr := [wd_Ker cs hk kr (fun _ => none) kf ka_45 (gKe pq pz_45 tq_45 rq_45), fm 13 (fTx cs tq_45 TR_45 TO_45 TF_45 TA_45), fm 8 (fPp cs pq PV)]) hw hip k45_3.1 hto2
          have hng37 := ndS_ge 13 RM_45 ip hip
          have hrn37 : RwN ip (RF_45 ip) := hki.2.2.1 ip hip _ k45_3.1
          have hro37 := hrn37.1
          unfold RwO at hro37
          have hid37 := hrn37.2.1
          have hch37 := hrn37.2.2
          unfold KcI at hch37
          refine px_get S k_Raw hT hw 4 0 15 (v := .int ((RF_45 ip) 15)) rfl rfl rfl (by decide) m6_158 d_Ker_move_59 ?_
          refine lv_bipush (v := 7) S.x S.b d_Ker_move_62 (by decide) ?_
          refine lv_icmp_ne (tgt := 88) S.x S.b d_Ker_move_64 (by decide) (fun c38 => ?_) (fun c38 => ?_)
          · have nc38 : ¬ ((RF_45 ip) 15).toInt = (7 : Int) := mt (i_eq (x := ((RF_45 ip) 15)) (y := 7)).mpr c38
            refine lv_aload_n S.x S.b d_Ker_move_88 rfl (lv_at hl 0 rfl) ?_
            refine px_get S k_Ker hT hw 0 0 1 (v := .ref (kr 1)) rfl rfl rfl (by decide) m2_220 d_Ker_move_89 ?_
            refine lv_bipush (v := 16) S.x S.b d_Ker_move_92 (by decide) ?_
            refine lv_iload_n S.x S.b d_Ker_move_94 rfl (lv_at hl 2 rfl) ?_
            refine lv_imul S.x S.b d_Ker_move_95 ?_
            refine lv_topi (fun z40 ez40 => ?_)
            have lz40 := Int32.le_toInt z40
            have uz40 := Int32.toInt_lt z40
            have tz40 : -2147483648 ≤ 16 * p0.toInt → 16 * p0.toInt < 2147483648 → z40.toInt = 16 * p0.toInt := by rw [ez40]; exact i_mulc 16 p0 (by decide)
            try replace tz40 : z40.toInt = 16 * p0.toInt := by omega
            refine lv_iload S.x S.b d_Ker_move_96 (lv_at hl 4 rfl) ?_
            refine lv_iadd S.x S.b d_Ker_move_98 ?_
            refine lv_topi (fun z41 ez41 => ?_)
            have tz41 : z41.toInt = (z40.toInt + x45_4.toInt + 2147483648) % 4294967296 - 2147483648 := by rw [ez41]; exact i_add z40 x45_4
            have lz41 := Int32.le_toInt z41
            have uz41 := Int32.toInt_lt z41
            try replace tz41 : z41.toInt = z40.toInt + x45_4.toInt := by omega
            refine lv_aload_n S.x S.b d_Ker_move_99 rfl (lv_at hl 1 rfl) ?_
            refine lv_iload S.x S.b d_Ker_move_100 (lv_at hl 4 rfl) ?_
            have hw : pw D A s.heap _ _ [wd_Ker cs hk kr (fun _ => none) kf ka_45 (gKe pq pz_45 tq_45 rq_45), fm 13 (fTx cs tq_45 TR_45 TO_45 TF_45 TA_45), fo 13 (fRw cs rq_45 RR_45 RM_45 RW_45 RF_45 RA_45 RC_45) ip, wd_Raw cs hx (RR_45 ip) (fun k => if k = 2 then (RM_45 ip) else if k = 4 then (some ((PV j2).r 1)) else none) (RF_45 ip) (RA_45 ip) (fun _ _ => none), nA cs (RM_45 ip) 36864 (RC_45 ip), fm 8 (fPp cs pq PV)] := hw.sub [0, 1, 3, 4, 5, 2] rfl rfl
            have hw : pw D A s.heap _ _ [wd_Ker cs hk kr (fun _ => none) kf ka_45 (gKe pq pz_45 tq_45 rq_45), fm 13 (fTx cs tq_45 TR_45 TO_45 TF_45 TA_45), fo 13 (fRw cs rq_45 RR_45 RM_45 RW_45 RF_45 RA_45 RC_45) ip, wd_Raw cs hx (RR_45 ip) (fun k => if k = 2 then (RM_45 ip) else if k = 4 then (some ((PV j2).r 1)) else none) (RF_45 ip) (RA_45 ip) (fun _ _ => none), nA cs (RM_45 ip) 36864 (RC_45 ip), fo 8 (fPp cs pq PV) j2, wd_Prg cs hp2 (PV j2).r (fun k => if k = 2 then (PV j2).o else none) (PV j2).f (fun _ _ => 0) (fun _ _ => none), nA cs (PV j2).o (PV j2).fn (PV j2).fd, [(((PV j2).r 1), .inl (cs 0, (PV j2).cn, .inl (PV j2).cd))]] := fpp_out (pr := [wd_Ker cs hk kr (fun _ => none) kf ka_45 (gKe pq pz_45 tq_45 rq_45), fm 13 (fTx cs tq_45 TR_45 TO_45 TF_45 TA_45), fo 13 (fRw cs rq_45 RR_45 RM_45 RW_45 RF_45 RA_45 RC_45) ip, wd_Raw cs hx (RR_45 ip) (fun k => if k = 2 then (RM_45 ip) else if k = 4 then (some ((PV j2).r 1)) else none) (RF_45 ip) (RA_45 ip) (fun _ _ => none), nA cs (RM_45 ip) 36864 (RC_45 ip)]) hw hj2 hjq2
            have hpv42 := hki.1 j2 hj2 _ hjq2
            have hpn42 := hpv42.1
            have hpz42 := hpv42.2.1
            have hw : pw D A s.heap _ _ [wd_Ker cs hk kr (fun _ => none) kf ka_45 (gKe pq pz_45 tq_45 rq_45), fm 13 (fTx cs tq_45 TR_45 TO_45 TF_45 TA_45), fo 13 (fRw cs rq_45 RR_45 RM_45 RW_45 RF_45 RA_45 RC_45) ip, fo 8 (fPp cs pq PV) j2, wd_Prg cs hp2 (PV j2).r (fun k => if k = 2 then (PV j2).o else none) (PV j2).f (fun _ _ => 0) (fun _ _ => none), nA cs (PV j2).o (PV j2).fn (PV j2).fd, wd_Raw cs hx (RR_45 ip) (fun k => if k = 2 then (RM_45 ip) else if k = 4 then (some ((PV j2).r 1)) else none) (RF_45 ip) (RA_45 ip) (fun _ _ => none), nA cs (RM_45 ip) 36864 (RC_45 ip), [(((PV j2).r 1), .inl (cs 0, (PV j2).cn, .inl (PV j2).cd))]] := hw.sub [0, 1, 2, 5, 6, 7, 3, 4, 8] rfl rfl
            refine px_calli (pr := [wd_Ker cs hk kr (fun _ => none) kf ka_45 (gKe pq pz_45 tq_45 rq_45), fm 13 (fTx cs tq_45 TR_45 TO_45 TF_45 TA_45), fo 13 (fRw cs rq_45 RR_45 RM_45 RW_45 RF_45 RA_45 RC_45) ip, fo 8 (fPp cs pq PV) j2, wd_Prg cs hp2 (PV j2).r (fun k => if k = 2 then (PV j2).o else none) (PV j2).f (fun _ _ => 0) (fun _ _ => none), nA cs (PV j2).o (PV j2).fn (PV j2).fd]) (px_runA (As := [.int x45_4]) (rest := [.int z41, .ref (kr 1)]) S (c_Raw_wordToMove l D cs hx (RR_45 ip) (fun _ _ => none) (some ((PV j2).r 1)) (PV j2).cn (PV j2).cd (RF_45 ip) (RA_45 ip) (RM_45 ip) (RC_45 ip) x45_4  (show (PV j2).cn ≤ 1000000 from by omega) _) hT (pr := [wd_Ker cs hk kr (fun _ => none) kf ka_45 (gKe pq pz_45 tq_45 rq_45), fm 13 (fTx cs tq_45 TR_45 TO_45 TF_45 TA_45), fo 13 (fRw cs rq_45 RR_45 RM_45 RW_45 RF_45 RA_45 RC_45) ip, fo 8 (fPp cs pq PV) j2, wd_Prg cs hp2 (PV j2).r (fun k => if k = 2 then (PV j2).o else none) (PV j2).f (fun _ _ => 0) (fun _ _ => none), nA cs (PV j2).o (PV j2).fn (PV j2).fd]) (pcs := [wd_Raw cs hx (RR_45 ip) (fun k => if k = 2 then (RM_45 ip) else if k = 4 then (some ((PV j2).r 1)) else none) (RF_45 ip) (RA_45 ip) (fun _ _ => none), nA cs (RM_45 ip) 36864 (RC_45 ip), [(((PV j2).r 1), .inl (cs 0, (PV j2).cn, .inl (PV j2).cd))]]) hw px_X.tt (C := "HomeSystem$RawProcess") (owner := "HomeSystem$AnyProcess") (x := ⟨"HomeSystem$AnyProcess", "wordToMove", "(I)I"⟩) (px_recv hT hw 6 0 rfl rfl rfl) m8_135 m8_130 m8_132 m8_134 m8_133 m1_34 m8_131n ⟨by decide, by decide⟩ rfl q_Raw_wordToMove ⟨Nat.le_of_ble_eq_true rfl, Nat.le_of_ble_eq_true rfl⟩ hl.1 rfl (Nat.le_of_ble_eq_true rfl) d_Ker_move_102 ⟨show ce_45 + 0 ≤ (5 * ndS 13 tq + 4 * ndS 13 rq + ndS 13 RM) from (by first | exact oz_3e0efcc333 k45_10 | omega), show sl_45 + 0 ≤ (9804 * ndS 13 tq + 342 * ndS 13 rq + 36864 * ndS 13 RM) from (by first | exact oz_93e1379802 k45_11 | omega)⟩) hw hA (fun v44 p43 H locs hp43 hw => ?_)
            subst hp43
            have hw : pw D A s.heap H locs [wd_Ker cs hk kr (fun _ => none) kf ka_45 (gKe pq pz_45 tq_45 rq_45), fm 13 (fTx cs tq_45 TR_45 TO_45 TF_45 TA_45), fo 13 (fRw cs rq_45 RR_45 RM_45 RW_45 RF_45 RA_45 RC_45) ip, fo 8 (fPp cs pq PV) j2, wd_Prg cs hp2 (PV j2).r (fun k => if k = 2 then (PV j2).o else none) (PV j2).f (fun _ _ => 0) (fun _ _ => none), nA cs (PV j2).o (PV j2).fn (PV j2).fd, wd_Raw cs hx (RR_45 ip) (fun k => if k = 2 then (RM_45 ip) else if k = 4 then (some ((PV j2).r 1)) else none) (RF_45 ip) (RA_45 ip) (fun _ _ => none), nA cs (RM_45 ip) 36864 (RC_45 ip), [(((PV j2).r 1), .inl (cs 0, (PV j2).cn, .inl (PV j2).cd))]] := hw
            have lv44 := Int32.le_toInt v44
            have uv44 := Int32.toInt_lt v44
            refine px_iast S hT hw 0 2 (n := 128) (f := (ka_45 1)) (x := z41) (y := v44) rfl (ga_Ker_1 _ _ _ _ _ _ _) (vp_in_iff.mpr (by constructor <;> omega)) d_Ker_move_105 (w' := wd_Ker cs hk kr (fun _ => none) kf (va_up ka_45 1 (upd (ka_45 1) z41.toNatClampNeg v44)) (gKe pq pz_45 tq_45 rq_45)) (ps' := [wd_Ker cs hk kr (fun _ => none) kf (va_up ka_45 1 (upd (ka_45 1) z41.toNatClampNeg v44)) (gKe pq pz_45 tq_45 rq_45), fm 13 (fTx cs tq_45 TR_45 TO_45 TF_45 TA_45), fo 13 (fRw cs rq_45 RR_45 RM_45 RW_45 RF_45 RA_45 RC_45) ip, fo 8 (fPp cs pq PV) j2, wd_Prg cs hp2 (PV j2).r (fun k => if k = 2 then (PV j2).o else none) (PV j2).f (fun _ _ => 0) (fun _ _ => none), nA cs (PV j2).o (PV j2).fn (PV j2).fd, wd_Raw cs hx (RR_45 ip) (fun k => if k = 2 then (RM_45 ip) else if k = 4 then (some ((PV j2).r 1)) else none) (RF_45 ip) (RA_45 ip) (fun _ _ => none), nA cs (RM_45 ip) 36864 (RC_45 ip), [(((PV j2).r 1), .inl (cs 0, (PV j2).cn, .inl (PV j2).cd))]]) (sa_Ker_1 _ _ _ _ _ _ _ _) rfl (fun H locs hw => ?_)
            have hro : RoI (va_up ka_45 1 (upd (ka_45 1) z41.toNatClampNeg v44)) := hro.oth (by decide) (by decide)
            obtain ⟨z45, ez45⟩ : ∃ y : Int32, y = x45_4 + 1 := ⟨_, rfl⟩
            have tz45 : z45.toInt = (x45_4.toInt + 1 + 2147483648) % 4294967296 - 2147483648 := by rw [ez45]; exact i_add x45_4 1
            have lz45 := Int32.le_toInt z45
            have uz45 := Int32.toInt_lt z45
            try replace tz45 : z45.toInt = x45_4.toInt + 1 := by omega
            refine lv_iinc (v := z45) (lv' := [(4, .int z45), (0, .ref hk), (1, .ref hx), (2, .int p0), (3, .int x45_3)]) S.x S.b d_Ker_move_106 hl (k := 4) rfl (by rw [ez45]; rfl) (by decide) rfl (fun ls hl => ?_)
            refine lv_goto (tgt := 45) S.x S.b d_Ker_move_109 (by decide) ?_
            have hw : pw D A s.heap _ _ [wd_Ker cs hk kr (fun _ => none) kf (va_up ka_45 1 (upd (ka_45 1) z41.toNatClampNeg v44)) (gKe pq pz_45 tq_45 rq_45), fm 13 (fTx cs tq_45 TR_45 TO_45 TF_45 TA_45), fo 13 (fRw cs rq_45 RR_45 RM_45 RW_45 RF_45 RA_45 RC_45) ip, wd_Raw cs hx (RR_45 ip) (fun k => if k = 2 then (RM_45 ip) else if k = 4 then (some ((PV j2).r 1)) else none) (RF_45 ip) (RA_45 ip) (fun _ _ => none), nA cs (RM_45 ip) 36864 (RC_45 ip), fo 8 (fPp cs pq PV) j2, wd_Prg cs hp2 (PV j2).r (fun k => if k = 2 then (PV j2).o else none) (PV j2).f (fun _ _ => 0) (fun _ _ => none), nA cs (PV j2).o (PV j2).fn (PV j2).fd, [(((PV j2).r 1), .inl (cs 0, (PV j2).cn, .inl (PV j2).cd))]] := hw.sub [0, 1, 2, 6, 7, 3, 4, 5, 8] rfl rfl
            have hw : pw D A s.heap _ _ [wd_Ker cs hk kr (fun _ => none) kf (va_up ka_45 1 (upd (ka_45 1) z41.toNatClampNeg v44)) (gKe pq pz_45 tq_45 rq_45), fm 13 (fTx cs tq_45 TR_45 TO_45 TF_45 TA_45), fo 13 (fRw cs rq_45 RR_45 RM_45 RW_45 RF_45 RA_45 RC_45) ip, wd_Raw cs hx (RR_45 ip) (fun k => if k = 2 then (RM_45 ip) else if k = 4 then (some ((PV j2).r 1)) else none) (RF_45 ip) (RA_45 ip) (fun _ _ => none), nA cs (RM_45 ip) 36864 (RC_45 ip), fm 8 (fPp cs pq PV)] := fpp_back (pr := [wd_Ker cs hk kr (fun _ => none) kf (va_up ka_45 1 (upd (ka_45 1) z41.toNatClampNeg v44)) (gKe pq pz_45 tq_45 rq_45), fm 13 (fTx cs tq_45 TR_45 TO_45 TF_45 TA_45), fo 13 (fRw cs rq_45 RR_45 RM_45 RW_45 RF_45 RA_45 RC_45) ip, wd_Raw cs hx (RR_45 ip) (fun k => if k = 2 then (RM_45 ip) else if k = 4 then (some ((PV j2).r 1)) else none) (RF_45 ip) (RA_45 ip) (fun _ _ => none), nA cs (RM_45 ip) 36864 (RC_45 ip)]) hw hj2 hjq2
            have hw : pw D A s.heap _ _ [wd_Ker cs hk kr (fun _ => none) kf (va_up ka_45 1 (upd (ka_45 1) z41.toNatClampNeg v44)) (gKe pq pz_45 tq_45 rq_45), fm 13 (fTx cs tq_45 TR_45 TO_45 TF_45 TA_45), fm 8 (fPp cs pq PV), fo 13 (fRw cs rq_45 RR_45 RM_45 RW_45 RF_45 RA_45 RC_45) ip, wd_Raw cs hx (RR_45 ip) (fun k => if k = 2 then (RM_45 ip) else if k = 4 then (some ((PV j2).r 1)) else none) (RF_45 ip) (RA_45 ip) (fun _ _ => none), nA cs (RM_45 ip) 36864 (RC_45 ip)] := hw.sub [0, 1, 5, 2, 3, 4] rfl rfl
            have hw : pw D A s.heap _ _ [wd_Ker cs hk kr (fun _ => none) kf (va_up ka_45 1 (upd (ka_45 1) z41.toNatClampNeg v44)) (gKe pq pz_45 tq_45 rq_45), fm 13 (fTx cs tq_45 TR_45 TO_45 TF_45 TA_45), fm 8 (fPp cs pq PV), fm 13 (fRw cs rq_45 RR_45 RM_45 RW_45 RF_45 RA_45 RC_45)] := frw_back (pr := [wd_Ker cs hk kr (fun _ => none) kf (va_up ka_45 1 (upd (ka_45 1) z41.toNatClampNeg v44)) (gKe pq pz_45 tq_45 rq_45), fm 13 (fTx cs tq_45 TR_45 TO_45 TF_45 TA_45), fm 8 (fPp cs pq PV)]) hw hip k45_3.1 hto2
            have hw : pw D A s.heap _ _ [wd_Ker cs hk kr (fun _ => none) kf (va_up ka_45 1 (upd (ka_45 1) z41.toNatClampNeg v44)) (gKe pq pz_45 tq_45 rq_45), fm 13 (fTx cs tq_45 TR_45 TO_45 TF_45 TA_45), fm 13 (fRw cs rq_45 RR_45 RM_45 RW_45 RF_45 RA_45 RC_45), fm 8 (fPp cs pq PV)] := hw.sub [0, 1, 3, 2] rfl rfl
            exact ih45 ce_45 sl_45 pz_45 tq_45 rq_45 (va_up ka_45 1 (upd (ka_45 1) z41.toNatClampNeg v44)) TR_45 TO_45 TF_45 TA_45 RR_45 RM_45 RW_45 RF_45 RA_45 RC_45 x45_3 z45 _ _ ls (show KnI pq PV pz_45 tq_45 rq_45 TO_45 TF_45 TA_45 RW_45 RF_45 from hki) (show RoI (va_up ka_45 1 (upd (ka_45 1) z41.toNatClampNeg v44)) from hro) (show RmI rq_45 RM_45 from hrm) (show CuR pq PV rq_45 RW_45 ip hx from k45_3) (show 0 ≤ z45.toInt from by first | exact oz_ae613611c0 tz45 k45_4 | omega) (show z45.toInt ≤ 16 from by first | exact oz_46c819e4be tz45 nc20 | omega) (show x45_3.toInt ≤ 16 from by first | exact k45_6 | omega) (show 0 ≤ p0.toInt from by first | exact k45_7 | omega) (show p0.toInt ≤ 7 from by first | exact k45_8 | omega) (show (RF_45 ip 14).toInt = 1 from by first | exact k45_9 | omega) (show ce_45 + (5 * ndS 13 tq_45 + 4 * ndS 13 rq_45 + ndS 13 RM_45) ≤ 5 * ndS 13 tq + 4 * ndS 13 rq + ndS 13 RM from by first | exact k45_10 | omega) (show sl_45 + (9804 * ndS 13 tq_45 + 342 * ndS 13 rq_45 + 36864 * ndS 13 RM_45) ≤ 9804 * ndS 13 tq + 342 * ndS 13 rq + 36864 * ndS 13 RM from by first | exact k45_11 | omega) (show x45_3.toInt - z45.toInt + 4294967297 < (n_45 : Int) from by omega) hw (lv_sub hl [1, 2, 3, 4, 0] rfl)
          · have nc38 : ((RF_45 ip) 15).toInt = (7 : Int) := (i_eq (x := ((RF_45 ip) 15)) (y := 7)).mp c38
            refine lv_aload_n S.x S.b d_Ker_move_67 rfl (lv_at hl 1 rfl) ?_
            refine lv_iload S.x S.b d_Ker_move_68 (lv_at hl 4 rfl) ?_
            refine lv_aload_n S.x S.b d_Ker_move_70 rfl (lv_at hl 0 rfl) ?_
            refine px_get S k_Ker hT hw 0 0 1 (v := .ref (kr 1)) rfl rfl rfl (by decide) m2_220 d_Ker_move_71 ?_
            refine lv_bipush (v := 16) S.x S.b d_Ker_move_74 (by decide) ?_
            refine lv_iload_n S.x S.b d_Ker_move_76 rfl (lv_at hl 2 rfl) ?_
            refine lv_imul S.x S.b d_Ker_move_77 ?_
            refine lv_topi (fun z46 ez46 => ?_)
            have lz46 := Int32.le_toInt z46
            have uz46 := Int32.toInt_lt z46
            have tz46 : -2147483648 ≤ 16 * p0.toInt → 16 * p0.toInt < 2147483648 → z46.toInt = 16 * p0.toInt := by rw [ez46]; exact i_mulc 16 p0 (by decide)
            try replace tz46 : z46.toInt = 16 * p0.toInt := by omega
            refine lv_iload S.x S.b d_Ker_move_78 (lv_at hl 4 rfl) ?_
            refine lv_iadd S.x S.b d_Ker_move_80 ?_
            refine lv_topi (fun z47 ez47 => ?_)
            have tz47 : z47.toInt = (z46.toInt + x45_4.toInt + 2147483648) % 4294967296 - 2147483648 := by rw [ez47]; exact i_add z46 x45_4
            have lz47 := Int32.le_toInt z47
            have uz47 := Int32.toInt_lt z47
            try replace tz47 : z47.toInt = z46.toInt + x45_4.toInt := by omega
            refine px_iald S hT hw 0 2 (n := 128) (f := (ka_45 1)) rfl (ga_Ker_1 _ _ _ _ _ _ _) (x := z47) (vp_in_iff.mpr (by first | exact oz_903bb5f34d tz47 k45_4 tz46 k45_7 nc20 k45_8 | (constructor <;> omega))) d_Ker_move_81 ?_
            refine lv_topi (fun z48 ez48 => ?_)
            have lz48 := Int32.le_toInt z48
            have uz48 := Int32.toInt_lt z48
            refine pg_callv (pr := [wd_Ker cs hk kr (fun _ => none) kf ka_45 (gKe pq pz_45 tq_45 rq_45), fm 13 (fTx cs tq_45 TR_45 TO_45 TF_45 TA_45), fm 8 (fPp cs pq PV), fo 13 (fRw cs rq_45 RR_45 RM_45 RW_45 RF_45 RA_45 RC_45) ip]) (px_runA (As := [.int x45_4, .int z48]) (rest := []) S (c_Raw_moveWord l D cs hx (RR_45 ip) (fun _ _ => none) (some ((PV j2).r 1)) (RF_45 ip) (RA_45 ip) (RM_45 ip) (RC_45 ip) x45_4 z48   _ _) hT (pr := [wd_Ker cs hk kr (fun _ => none) kf ka_45 (gKe pq pz_45 tq_45 rq_45), fm 13 (fTx cs tq_45 TR_45 TO_45 TF_45 TA_45), fm 8 (fPp cs pq PV), fo 13 (fRw cs rq_45 RR_45 RM_45 RW_45 RF_45 RA_45 RC_45) ip]) (pcs := [wd_Raw cs hx (RR_45 ip) (fun k => if k = 2 then (RM_45 ip) else if k = 4 then (some ((PV j2).r 1)) else none) (RF_45 ip) (RA_45 ip) (fun _ _ => none), nA cs (RM_45 ip) 36864 (RC_45 ip)]) hw (px_X.tot px_X.tt) (C := "HomeSystem$RawProcess") (owner := "HomeSystem$AnyProcess") (x := ⟨"HomeSystem$AnyProcess", "moveWord", "(II)V"⟩) (px_recv hT hw 4 0 rfl rfl rfl) m8_116 m8_111 m8_113 m8_115 m8_114 m1_34 m8_112n ⟨by decide, by decide⟩ rfl q_Raw_moveWord ⟨Nat.le_of_ble_eq_true rfl, Nat.le_of_ble_eq_true rfl⟩ hl.1 rfl (Nat.le_of_ble_eq_true rfl) d_Ker_move_82 ⟨show ce_45 + (nd (RM_45 ip)) ≤ (5 * ndS 13 tq + 4 * ndS 13 rq + ndS 13 RM) from by omega, show sl_45 + (36864 * nd (RM_45 ip)) ≤ (9804 * ndS 13 tq + 342 * ndS 13 rq + 36864 * ndS 13 RM) from by omega⟩) hw hA (fun p53 k55 n56 H locs hp53 hw => ?_)
            dsimp only at hp53
            obtain ⟨f49, a50, o251, ma52, rfl, e57, e58, e59, e60, e61, e62, e63, e64, e65⟩ := hp53
            have e57 : (f49 3).toInt = ((RF_45 ip) 3).toInt := e57
            have e58 : (f49 7).toInt = ((RF_45 ip) 7).toInt := e58
            have e59 : (f49 8).toInt = ((RF_45 ip) 8).toInt := e59
            have e60 : (f49 10).toInt = ((RF_45 ip) 10).toInt := e60
            have e61 : (f49 13).toInt = ((RF_45 ip) 13).toInt := e61
            have e62 : (f49 14).toInt = ((RF_45 ip) 14).toInt := e62
            have e63 : (f49 11).toInt = ((RF_45 ip) 11).toInt := e63
            have e64 : k55 + nd o251 ≤ nd (RM_45 ip) := e64
            have e65 : n56 + 36864 * nd o251 ≤ 36864 * nd (RM_45 ip) := e65
            have hw : pw D A s.heap H locs [wd_Ker cs hk kr (fun _ => none) kf ka_45 (gKe pq pz_45 tq_45 rq_45), fm 13 (fTx cs tq_45 TR_45 TO_45 TF_45 TA_45), fm 8 (fPp cs pq PV), fo 13 (fRw cs rq_45 RR_45 RM_45 RW_45 RF_45 RA_45 RC_45) ip, wd_Raw cs hx (RR_45 ip) (fun k => if k = 2 then o251 else if k = 4 then (some ((PV j2).r 1)) else none) f49 a50 (fun _ _ => none), nA cs o251 36864 ma52] := hw
            refine lv_goto (tgt := 106) S.x S.b d_Ker_move_85 (by decide) ?_
            obtain ⟨z66, ez66⟩ : ∃ y : Int32, y = x45_4 + 1 := ⟨_, rfl⟩
            have tz66 : z66.toInt = (x45_4.toInt + 1 + 2147483648) % 4294967296 - 2147483648 := by rw [ez66]; exact i_add x45_4 1
            have lz66 := Int32.le_toInt z66
            have uz66 := Int32.toInt_lt z66
            try replace tz66 : z66.toInt = x45_4.toInt + 1 := by omega
            refine lv_iinc (v := z66) (lv' := [(4, .int z66), (0, .ref hk), (1, .ref hx), (2, .int p0), (3, .int x45_3)]) S.x S.b d_Ker_move_106 hl (k := 4) rfl (by rw [ez66]; rfl) (by decide) rfl (fun ls hl => ?_)
            refine lv_goto (tgt := 45) S.x S.b d_Ker_move_109 (by decide) ?_
            have hw := frw_in0 (pr := [wd_Ker cs hk kr (fun _ => none) kf ka_45 (gKe pq pz_45 tq_45 rq_45), fm 13 (fTx cs tq_45 TR_45 TO_45 TF_45 TA_45), fm 8 (fPp cs pq PV)]) hw hip k45_3.1 hto2
            obtain ⟨RM67, hu_RM67⟩ : ∃ y : Nat → Option Nat, y = va_up RM_45 ip o251 := ⟨_, rfl⟩
            obtain ⟨RF68, hu_RF68⟩ : ∃ y : Nat → Nat → Int32, y = va_up RF_45 ip f49 := ⟨_, rfl⟩
            obtain ⟨RA69, hu_RA69⟩ : ∃ y : Nat → Nat → Nat → Int32, y = va_up RA_45 ip a50 := ⟨_, rfl⟩
            obtain ⟨RC70, hu_RC70⟩ : ∃ y : Nat → Nat → Int32, y = va_up RC_45 ip ma52 := ⟨_, rfl⟩
            have hw : pw D A s.heap _ _ [wd_Ker cs hk kr (fun _ => none) kf ka_45 (gKe pq pz_45 tq_45 rq_45), fm 13 (fTx cs tq_45 TR_45 TO_45 TF_45 TA_45), fm 8 (fPp cs pq PV), fm 13 (fRw cs rq_45 RR_45 RM67 RW_45 RF68 RA69 RC70)] := (by rw [hu_RM67, hu_RF68, hu_RA69, hu_RC70]; exact hw)
            have hki : KnI pq PV pz_45 tq_45 rq_45 TO_45 TF_45 TA_45 RW_45 RF68 := (by rw [hu_RF68]; exact hki.upR (show RwN ip f49 from ⟨(show (0 ≤ (f49 7).toInt ∧ (f49 7).toInt ≤ 1600) ∧ (0 ≤ (f49 10).toInt ∧ (f49 10).toInt + (f49 7).toInt ≤ 1600) ∧ ((f49 14).toInt = 0 ∨ (f49 14).toInt = 1) ∧ ((f49 14).toInt = 1 → 1 ≤ (f49 7).toInt) from by omega), (show ((f49 8).toInt) = ((ip : Nat) : Int) from by omega), (show 0 ≤ (f49 13).toInt ∧ (f49 13).toInt ≤ 3 ∧ ((f49 13).toInt = 0 ∨ 3 * ((ip : Nat) : Int) + (f49 13).toInt ≤ 12) from by omega)⟩))
            have hrm : RmI rq_45 RM67 := (by rw [hu_RM67]; exact hrm.up k45_3.1)
            have hnd_RM67 := ndS_up 13 RM_45 ip o251 hip; rw [← hu_RM67] at hnd_RM67
            have hz14_RF68 : (RF68 ip 14).toInt = (f49 14).toInt := (by rw [hu_RF68, va_up_s]; try rfl)
            have hw : pw D A s.heap _ _ [wd_Ker cs hk kr (fun _ => none) kf ka_45 (gKe pq pz_45 tq_45 rq_45), fm 13 (fTx cs tq_45 TR_45 TO_45 TF_45 TA_45), fm 13 (fRw cs rq_45 RR_45 RM67 RW_45 RF68 RA69 RC70), fm 8 (fPp cs pq PV)] := hw.sub [0, 1, 3, 2] rfl rfl
            exact ih45 (ce_45 + k55) (sl_45 + n56) pz_45 tq_45 rq_45 ka_45 TR_45 TO_45 TF_45 TA_45 RR_45 RM67 RW_45 RF68 RA69 RC70 x45_3 z66 _ _ ls (show KnI pq PV pz_45 tq_45 rq_45 TO_45 TF_45 TA_45 RW_45 RF68 from hki) (show RoI ka_45 from hro) (show RmI rq_45 RM67 from hrm) (show CuR pq PV rq_45 RW_45 ip hx from k45_3) (show 0 ≤ z66.toInt from by first | exact oz_ae613611c0 tz66 k45_4 | omega) (show z66.toInt ≤ 16 from by first | exact oz_46c819e4be tz66 nc20 | omega) (show x45_3.toInt ≤ 16 from by first | exact k45_6 | omega) (show 0 ≤ p0.toInt from by first | exact k45_7 | omega) (show p0.toInt ≤ 7 from by first | exact k45_8 | omega) (show (RF68 ip 14).toInt = 1 from by first | exact oz_d145a98bf1 hz14_RF68 e62 k45_9 | omega) (show (ce_45 + k55) + (5 * ndS 13 tq_45 + 4 * ndS 13 rq_45 + ndS 13 RM67) ≤ 5 * ndS 13 tq + 4 * ndS 13 rq + ndS 13 RM from by omega) (show (sl_45 + n56) + (9804 * ndS 13 tq_45 + 342 * ndS 13 rq_45 + 36864 * ndS 13 RM67) ≤ 9804 * ndS 13 tq + 342 * ndS 13 rq + 36864 * ndS 13 RM from by omega) (show x45_3.toInt - z66.toInt + 4294967297 < (n_45 : Int) from by omega) hw (lv_sub hl [1, 2, 3, 4, 0] rfl)
  refine lv_aload_n S.x S.b d_Ker_move_0 rfl (lv_at hl 1 rfl) ?_
  obtain ⟨j71, hp71, hj71, hjq71, hto71⟩ := hcu.2
  have hw : pw D A s.heap _ _ [wd_Ker cs hk kr (fun _ => none) kf ka (gKe pq pz tq rq), fm 13 (fTx cs tq TR TO TF TA), fm 8 (fPp cs pq PV), fm 13 (fRw cs rq RR RM RW RF RA RC)] := hw.sub [0, 1, 3, 2] rfl rfl
  have hw : pw D A s.heap _ _ [wd_Ker cs hk kr (fun _ => none) kf ka (gKe pq pz tq rq), fm 13 (fTx cs tq TR TO TF TA), fm 8 (fPp cs pq PV), fo 13 (fRw cs rq RR RM RW RF RA RC) ip, wd_Raw cs hx (RR ip) (fun k => if k = 2 then (RM ip) else if k = 4 then (some ((PV j71).r 1)) else none) (RF ip) (RA ip) (fun _ _ => none), nA cs (RM ip) 36864 (RC ip)] := frw_out (pr := [wd_Ker cs hk kr (fun _ => none) kf ka (gKe pq pz tq rq), fm 13 (fTx cs tq TR TO TF TA), fm 8 (fPp cs pq PV)]) hw hip hcu.1 hto71
  have hng72 := ndS_ge 13 RM ip hip
  have hrn72 : RwN ip (RF ip) := hki.2.2.1 ip hip _ hcu.1
  have hro72 := hrn72.1
  unfold RwO at hro72
  have hid72 := hrn72.2.1
  have hch72 := hrn72.2.2
  unfold KcI at hch72
  refine px_get S k_Raw hT hw 4 0 8 (v := .int ((RF ip) 8)) rfl rfl rfl (by decide) m6_133 d_Ker_move_1 ?_
  refine lv_if_ne (tgt := 17) S.x S.b d_Ker_move_4 (by decide) (fun c73 => ?_) (fun c73 => ?_)
  · have nc73 : ¬ ((RF ip) 8).toInt = (0 : Int) := mt (i_eq (x := ((RF ip) 8)) (y := 0)).mpr c73
    refine lv_aload_n S.x S.b d_Ker_move_17 rfl (lv_at hl 1 rfl) ?_
    refine lv_iconst (v := 2) S.x S.b d_Ker_move_18 (by decide) ?_
    refine lv_iconst (v := 0) S.x S.b d_Ker_move_19 (by decide) ?_
    have hw : pw D A s.heap _ _ [wd_Ker cs hk kr (fun _ => none) kf ka (gKe pq pz tq rq), fm 13 (fTx cs tq TR TO TF TA), fm 8 (fPp cs pq PV), fo 13 (fRw cs rq RR RM RW RF RA RC) ip, nA cs (RM ip) 36864 (RC ip), wd_Raw cs hx (RR ip) (fun k => if k = 2 then (RM ip) else if k = 4 then (some ((PV j71).r 1)) else none) (RF ip) (RA ip) (fun _ _ => none)] := hw.sub [0, 1, 2, 3, 5, 4] rfl rfl
    refine px_callv (pr := [wd_Ker cs hk kr (fun _ => none) kf ka (gKe pq pz tq rq), fm 13 (fTx cs tq TR TO TF TA), fm 8 (fPp cs pq PV), fo 13 (fRw cs rq RR RM RW RF RA RC) ip, nA cs (RM ip) 36864 (RC ip)]) (px_runU (As := [.int 2, .int 0]) (rest := []) S (c_finish_Raw l D cs hx (RR ip) (fun _ _ => none) (RM ip) (some ((PV j71).r 1)) (RF ip) (RA ip) 2 0   _) hT (pr := [wd_Ker cs hk kr (fun _ => none) kf ka (gKe pq pz tq rq), fm 13 (fTx cs tq TR TO TF TA), fm 8 (fPp cs pq PV), fo 13 (fRw cs rq RR RM RW RF RA RC) ip, nA cs (RM ip) 36864 (RC ip)]) (pcs := [wd_Raw cs hx (RR ip) (fun k => if k = 2 then (RM ip) else if k = 4 then (some ((PV j71).r 1)) else none) (RF ip) (RA ip) (fun _ _ => none)]) hw px_X.tt (C := "HomeSystem$RawProcess") (x := ⟨"HomeSystem$AnyProcess", "finish", "(II)V"⟩) (px_recv hT hw 5 0 rfl rfl rfl) m8_89 m8_84 m8_86 m8_85 m8_87 m1_33 rfl q_HomeSystem_AnyProcess_finish ⟨Nat.le_of_ble_eq_true rfl, Nat.le_of_ble_eq_true rfl⟩ hl.1 rfl (Nat.le_of_ble_eq_true rfl) d_Ker_move_20 ⟨show 0 + 0 ≤ (5 * ndS 13 tq + 4 * ndS 13 rq + ndS 13 RM) from (by first | exact oz_9c199dfd7f | omega), show 0 + 0 ≤ (9804 * ndS 13 tq + 342 * ndS 13 rq + 36864 * ndS 13 RM) from (by first | exact oz_54615505fb | omega)⟩) hw hA (fun p77 H locs hp77 hw => ?_)
    obtain ⟨f75, a76, rfl, e79, e80, e81, e82, e83, e84, e85⟩ := hp77
    have e79 : (f75 3).toInt = ((RF ip) 3).toInt := e79
    have e80 : (f75 7).toInt = ((RF ip) 7).toInt := e80
    have e81 : (f75 8).toInt = ((RF ip) 8).toInt := e81
    have e82 : (f75 10).toInt = ((RF ip) 10).toInt := e82
    have e83 : (f75 13).toInt = ((RF ip) 13).toInt := e83
    have e84 : (f75 14).toInt = 0 := e84
    have e85 : (f75 11).toInt = (2 : Int) := e85
    have hw : pw D A s.heap H locs [wd_Ker cs hk kr (fun _ => none) kf ka (gKe pq pz tq rq), fm 13 (fTx cs tq TR TO TF TA), fm 8 (fPp cs pq PV), fo 13 (fRw cs rq RR RM RW RF RA RC) ip, nA cs (RM ip) 36864 (RC ip), wd_Raw cs hx (RR ip) (fun k => if k = 2 then (RM ip) else if k = 4 then (some ((PV j71).r 1)) else none) f75 a76 (fun _ _ => none)] := hw
    have hw : pw D A s.heap _ _ [wd_Ker cs hk kr (fun _ => none) kf ka (gKe pq pz tq rq), fm 13 (fTx cs tq TR TO TF TA), fm 8 (fPp cs pq PV), fo 13 (fRw cs rq RR RM RW RF RA RC) ip, wd_Raw cs hx (RR ip) (fun k => if k = 2 then (RM ip) else if k = 4 then (some ((PV j71).r 1)) else none) f75 a76 (fun _ _ => none), nA cs (RM ip) 36864 (RC ip)] := hw.sub [0, 1, 2, 3, 5, 4] rfl rfl
    have hw := frw_in0 (pr := [wd_Ker cs hk kr (fun _ => none) kf ka (gKe pq pz tq rq), fm 13 (fTx cs tq TR TO TF TA), fm 8 (fPp cs pq PV)]) hw hip hcu.1 hto71
    obtain ⟨RM86, hu_RM86⟩ : ∃ y : Nat → Option Nat, y = va_up RM ip (RM ip) := ⟨_, rfl⟩
    obtain ⟨RF87, hu_RF87⟩ : ∃ y : Nat → Nat → Int32, y = va_up RF ip f75 := ⟨_, rfl⟩
    obtain ⟨RA88, hu_RA88⟩ : ∃ y : Nat → Nat → Nat → Int32, y = va_up RA ip a76 := ⟨_, rfl⟩
    obtain ⟨RC89, hu_RC89⟩ : ∃ y : Nat → Nat → Int32, y = va_up RC ip (RC ip) := ⟨_, rfl⟩
    have hw : pw D A s.heap _ _ [wd_Ker cs hk kr (fun _ => none) kf ka (gKe pq pz tq rq), fm 13 (fTx cs tq TR TO TF TA), fm 8 (fPp cs pq PV), fm 13 (fRw cs rq RR RM86 RW RF87 RA88 RC89)] := (by rw [hu_RM86, hu_RF87, hu_RA88, hu_RC89]; exact hw)
    have hki : KnI pq PV pz tq rq TO TF TA RW RF87 := (by rw [hu_RF87]; exact hki.upR (show RwN ip f75 from ⟨(show (0 ≤ (f75 7).toInt ∧ (f75 7).toInt ≤ 1600) ∧ (0 ≤ (f75 10).toInt ∧ (f75 10).toInt + (f75 7).toInt ≤ 1600) ∧ ((f75 14).toInt = 0 ∨ (f75 14).toInt = 1) ∧ ((f75 14).toInt = 1 → 1 ≤ (f75 7).toInt) from by omega), (show ((f75 8).toInt) = ((ip : Nat) : Int) from by omega), (show 0 ≤ (f75 13).toInt ∧ (f75 13).toInt ≤ 3 ∧ ((f75 13).toInt = 0 ∨ 3 * ((ip : Nat) : Int) + (f75 13).toInt ≤ 12) from by omega)⟩))
    have hrm : RmI rq RM86 := (by rw [hu_RM86]; exact hrm.up hcu.1)
    have hnd_RM86 := ndS_up 13 RM ip (RM ip) hip; rw [← hu_RM86] at hnd_RM86
    have hz14_RF87 : (RF87 ip 14).toInt = (f75 14).toInt := (by rw [hu_RF87, va_up_s]; try rfl)
    have hw : pw D A s.heap _ _ [wd_Ker cs hk kr (fun _ => none) kf ka (gKe pq pz tq rq), fm 13 (fTx cs tq TR TO TF TA), fm 13 (fRw cs rq RR RM86 RW RF87 RA88 RC89), fm 8 (fPp cs pq PV)] := hw.sub [0, 1, 3, 2] rfl rfl
    exact pg_vret S hr hlk hAe hw (show 0 ≤ (5 * ndS 13 tq + 4 * ndS 13 rq + ndS 13 RM) from by first | exact oz_86e49526c7 | omega) (show 0 ≤ (9804 * ndS 13 tq + 342 * ndS 13 rq + 36864 * ndS 13 RM) from by first | exact oz_fc3b58e969 | omega) (⟨pz, tq, rq, ka, TR, TO, TF, TA, RR, RM86, RW, RF87, RA88, RC89, rfl, (show CuR pq PV rq RW ip hx from hcu), (show KnI pq PV pz tq rq TO TF TA RW RF87 from hki), (show RoI ka from hro), (show RmI rq RM86 from hrm), (show 0 + (5 * ndS 13 tq + 4 * ndS 13 rq + ndS 13 RM86) ≤ 5 * ndS 13 tq + 4 * ndS 13 rq + ndS 13 RM from by omega), (show 0 + (9804 * ndS 13 tq + 342 * ndS 13 rq + 36864 * ndS 13 RM86) ≤ 9804 * ndS 13 tq + 342 * ndS 13 rq + 36864 * ndS 13 RM from by omega)⟩) d_Ker_move_23
  · have nc73 : ((RF ip) 8).toInt = (0 : Int) := (i_eq (x := ((RF ip) 8)) (y := 0)).mp c73
    refine lv_iload_n S.x S.b d_Ker_move_7 rfl (lv_at hl 2 rfl) ?_
    refine lv_if_lt (tgt := 17) S.x S.b d_Ker_move_8 (by decide) (fun c90 => ?_) (fun c90 => ?_)
    · have nc90 : p0.toInt < (0 : Int) := (i_lt (x := p0) (y := 0)).mp c90
      refine lv_aload_n S.x S.b d_Ker_move_17 rfl (lv_at hl 1 rfl) ?_
      refine lv_iconst (v := 2) S.x S.b d_Ker_move_18 (by decide) ?_
      refine lv_iconst (v := 0) S.x S.b d_Ker_move_19 (by decide) ?_
      have hw : pw D A s.heap _ _ [wd_Ker cs hk kr (fun _ => none) kf ka (gKe pq pz tq rq), fm 13 (fTx cs tq TR TO TF TA), fm 8 (fPp cs pq PV), fo 13 (fRw cs rq RR RM RW RF RA RC) ip, nA cs (RM ip) 36864 (RC ip), wd_Raw cs hx (RR ip) (fun k => if k = 2 then (RM ip) else if k = 4 then (some ((PV j71).r 1)) else none) (RF ip) (RA ip) (fun _ _ => none)] := hw.sub [0, 1, 2, 3, 5, 4] rfl rfl
      refine px_callv (pr := [wd_Ker cs hk kr (fun _ => none) kf ka (gKe pq pz tq rq), fm 13 (fTx cs tq TR TO TF TA), fm 8 (fPp cs pq PV), fo 13 (fRw cs rq RR RM RW RF RA RC) ip, nA cs (RM ip) 36864 (RC ip)]) (px_runU (As := [.int 2, .int 0]) (rest := []) S (c_finish_Raw l D cs hx (RR ip) (fun _ _ => none) (RM ip) (some ((PV j71).r 1)) (RF ip) (RA ip) 2 0   _) hT (pr := [wd_Ker cs hk kr (fun _ => none) kf ka (gKe pq pz tq rq), fm 13 (fTx cs tq TR TO TF TA), fm 8 (fPp cs pq PV), fo 13 (fRw cs rq RR RM RW RF RA RC) ip, nA cs (RM ip) 36864 (RC ip)]) (pcs := [wd_Raw cs hx (RR ip) (fun k => if k = 2 then (RM ip) else if k = 4 then (some ((PV j71).r 1)) else none) (RF ip) (RA ip) (fun _ _ => none)]) hw px_X.tt (C := "HomeSystem$RawProcess") (x := ⟨"HomeSystem$AnyProcess", "finish", "(II)V"⟩) (px_recv hT hw 5 0 rfl rfl rfl) m8_89 m8_84 m8_86 m8_85 m8_87 m1_33 rfl q_HomeSystem_AnyProcess_finish ⟨Nat.le_of_ble_eq_true rfl, Nat.le_of_ble_eq_true rfl⟩ hl.1 rfl (Nat.le_of_ble_eq_true rfl) d_Ker_move_20 ⟨show 0 + 0 ≤ (5 * ndS 13 tq + 4 * ndS 13 rq + ndS 13 RM) from (by first | exact oz_9c199dfd7f | omega), show 0 + 0 ≤ (9804 * ndS 13 tq + 342 * ndS 13 rq + 36864 * ndS 13 RM) from (by first | exact oz_54615505fb | omega)⟩) hw hA (fun p94 H locs hp94 hw => ?_)
      obtain ⟨f92, a93, rfl, e96, e97, e98, e99, e100, e101, e102⟩ := hp94
      have e96 : (f92 3).toInt = ((RF ip) 3).toInt := e96
      have e97 : (f92 7).toInt = ((RF ip) 7).toInt := e97
      have e98 : (f92 8).toInt = ((RF ip) 8).toInt := e98
      have e99 : (f92 10).toInt = ((RF ip) 10).toInt := e99
      have e100 : (f92 13).toInt = ((RF ip) 13).toInt := e100
      have e101 : (f92 14).toInt = 0 := e101
      have e102 : (f92 11).toInt = (2 : Int) := e102
      have hw : pw D A s.heap H locs [wd_Ker cs hk kr (fun _ => none) kf ka (gKe pq pz tq rq), fm 13 (fTx cs tq TR TO TF TA), fm 8 (fPp cs pq PV), fo 13 (fRw cs rq RR RM RW RF RA RC) ip, nA cs (RM ip) 36864 (RC ip), wd_Raw cs hx (RR ip) (fun k => if k = 2 then (RM ip) else if k = 4 then (some ((PV j71).r 1)) else none) f92 a93 (fun _ _ => none)] := hw
      have hw : pw D A s.heap _ _ [wd_Ker cs hk kr (fun _ => none) kf ka (gKe pq pz tq rq), fm 13 (fTx cs tq TR TO TF TA), fm 8 (fPp cs pq PV), fo 13 (fRw cs rq RR RM RW RF RA RC) ip, wd_Raw cs hx (RR ip) (fun k => if k = 2 then (RM ip) else if k = 4 then (some ((PV j71).r 1)) else none) f92 a93 (fun _ _ => none), nA cs (RM ip) 36864 (RC ip)] := hw.sub [0, 1, 2, 3, 5, 4] rfl rfl
      have hw := frw_in0 (pr := [wd_Ker cs hk kr (fun _ => none) kf ka (gKe pq pz tq rq), fm 13 (fTx cs tq TR TO TF TA), fm 8 (fPp cs pq PV)]) hw hip hcu.1 hto71
      obtain ⟨RM103, hu_RM103⟩ : ∃ y : Nat → Option Nat, y = va_up RM ip (RM ip) := ⟨_, rfl⟩
      obtain ⟨RF104, hu_RF104⟩ : ∃ y : Nat → Nat → Int32, y = va_up RF ip f92 := ⟨_, rfl⟩
      obtain ⟨RA105, hu_RA105⟩ : ∃ y : Nat → Nat → Nat → Int32, y = va_up RA ip a93 := ⟨_, rfl⟩
      obtain ⟨RC106, hu_RC106⟩ : ∃ y : Nat → Nat → Int32, y = va_up RC ip (RC ip) := ⟨_, rfl⟩
      have hw : pw D A s.heap _ _ [wd_Ker cs hk kr (fun _ => none) kf ka (gKe pq pz tq rq), fm 13 (fTx cs tq TR TO TF TA), fm 8 (fPp cs pq PV), fm 13 (fRw cs rq RR RM103 RW RF104 RA105 RC106)] := (by rw [hu_RM103, hu_RF104, hu_RA105, hu_RC106]; exact hw)
      have hki : KnI pq PV pz tq rq TO TF TA RW RF104 := (by rw [hu_RF104]; exact hki.upR (show RwN ip f92 from ⟨(show (0 ≤ (f92 7).toInt ∧ (f92 7).toInt ≤ 1600) ∧ (0 ≤ (f92 10).toInt ∧ (f92 10).toInt + (f92 7).toInt ≤ 1600) ∧ ((f92 14).toInt = 0 ∨ (f92 14).toInt = 1) ∧ ((f92 14).toInt = 1 → 1 ≤ (f92 7).toInt) from by omega), (show ((f92 8).toInt) = ((ip : Nat) : Int) from by omega), (show 0 ≤ (f92 13).toInt ∧ (f92 13).toInt ≤ 3 ∧ ((f92 13).toInt = 0 ∨ 3 * ((ip : Nat) : Int) + (f92 13).toInt ≤ 12) from by omega)⟩))
      have hrm : RmI rq RM103 := (by rw [hu_RM103]; exact hrm.up hcu.1)
      have hnd_RM103 := ndS_up 13 RM ip (RM ip) hip; rw [← hu_RM103] at hnd_RM103
      have hz14_RF104 : (RF104 ip 14).toInt = (f92 14).toInt := (by rw [hu_RF104, va_up_s]; try rfl)
      have hw : pw D A s.heap _ _ [wd_Ker cs hk kr (fun _ => none) kf ka (gKe pq pz tq rq), fm 13 (fTx cs tq TR TO TF TA), fm 13 (fRw cs rq RR RM103 RW RF104 RA105 RC106), fm 8 (fPp cs pq PV)] := hw.sub [0, 1, 3, 2] rfl rfl
      exact pg_vret S hr hlk hAe hw (show 0 ≤ (5 * ndS 13 tq + 4 * ndS 13 rq + ndS 13 RM) from by first | exact oz_86e49526c7 | omega) (show 0 ≤ (9804 * ndS 13 tq + 342 * ndS 13 rq + 36864 * ndS 13 RM) from by first | exact oz_fc3b58e969 | omega) (⟨pz, tq, rq, ka, TR, TO, TF, TA, RR, RM103, RW, RF104, RA105, RC106, rfl, (show CuR pq PV rq RW ip hx from hcu), (show KnI pq PV pz tq rq TO TF TA RW RF104 from hki), (show RoI ka from hro), (show RmI rq RM103 from hrm), (show 0 + (5 * ndS 13 tq + 4 * ndS 13 rq + ndS 13 RM103) ≤ 5 * ndS 13 tq + 4 * ndS 13 rq + ndS 13 RM from by omega), (show 0 + (9804 * ndS 13 tq + 342 * ndS 13 rq + 36864 * ndS 13 RM103) ≤ 9804 * ndS 13 tq + 342 * ndS 13 rq + 36864 * ndS 13 RM from by omega)⟩) d_Ker_move_23
    · have nc90 : ¬ p0.toInt < (0 : Int) := mt (i_lt (x := p0) (y := 0)).mpr c90
      refine lv_iload_n S.x S.b d_Ker_move_11 rfl (lv_at hl 2 rfl) ?_
      refine lv_bipush (v := 8) S.x S.b d_Ker_move_12 (by decide) ?_
      refine lv_icmp_lt (tgt := 24) S.x S.b d_Ker_move_14 (by decide) (fun c107 => ?_) (fun c107 => ?_)
      · have nc107 : p0.toInt < (8 : Int) := (i_lt (x := p0) (y := 8)).mp c107
        refine lv_aload_n S.x S.b d_Ker_move_24 rfl (lv_at hl 1 rfl) ?_
        have hw : pw D A s.heap _ _ [wd_Ker cs hk kr (fun _ => none) kf ka (gKe pq pz tq rq), fm 13 (fTx cs tq TR TO TF TA), fm 8 (fPp cs pq PV), fo 13 (fRw cs rq RR RM RW RF RA RC) ip, nA cs (RM ip) 36864 (RC ip), wd_Raw cs hx (RR ip) (fun k => if k = 2 then (RM ip) else if k = 4 then (some ((PV j71).r 1)) else none) (RF ip) (RA ip) (fun _ _ => none)] := hw.sub [0, 1, 2, 3, 5, 4] rfl rfl
        refine px_calli (pr := [wd_Ker cs hk kr (fun _ => none) kf ka (gKe pq pz tq rq), fm 13 (fTx cs tq TR TO TF TA), fm 8 (fPp cs pq PV), fo 13 (fRw cs rq RR RM RW RF RA RC) ip, nA cs (RM ip) 36864 (RC ip)]) (px_runA (As := []) (rest := []) S (c_Raw_movable l D cs hx (RR ip) (fun _ _ => none) (RM ip) (some ((PV j71).r 1)) (RF ip) (RA ip)    _) hT (pr := [wd_Ker cs hk kr (fun _ => none) kf ka (gKe pq pz tq rq), fm 13 (fTx cs tq TR TO TF TA), fm 8 (fPp cs pq PV), fo 13 (fRw cs rq RR RM RW RF RA RC) ip, nA cs (RM ip) 36864 (RC ip)]) (pcs := [wd_Raw cs hx (RR ip) (fun k => if k = 2 then (RM ip) else if k = 4 then (some ((PV j71).r 1)) else none) (RF ip) (RA ip) (fun _ _ => none)]) hw px_X.tt (C := "HomeSystem$RawProcess") (owner := "HomeSystem$AnyProcess") (x := ⟨"HomeSystem$AnyProcess", "movable", "()I"⟩) (px_recv hT hw 5 0 rfl rfl rfl) m8_95 m8_90 m8_92 m8_94 m8_93 m1_34 m8_91n ⟨by decide, by decide⟩ rfl q_Raw_movable ⟨Nat.le_of_ble_eq_true rfl, Nat.le_of_ble_eq_true rfl⟩ hl.1 rfl (Nat.le_of_ble_eq_true rfl) d_Ker_move_25 ⟨show 0 + 0 ≤ (5 * ndS 13 tq + 4 * ndS 13 rq + ndS 13 RM) from (by first | exact oz_9c199dfd7f | omega), show 0 + 0 ≤ (9804 * ndS 13 tq + 342 * ndS 13 rq + 36864 * ndS 13 RM) from (by first | exact oz_54615505fb | omega)⟩) hw hA (fun v110 p109 H locs hp109 hw => ?_)
        obtain ⟨rfl, e111, e112⟩ := hp109
        have e111 : -1 ≤ v110.toInt := e111
        have e112 : v110.toInt ≤ 16 := e112
        have hw : pw D A s.heap H locs [wd_Ker cs hk kr (fun _ => none) kf ka (gKe pq pz tq rq), fm 13 (fTx cs tq TR TO TF TA), fm 8 (fPp cs pq PV), fo 13 (fRw cs rq RR RM RW RF RA RC) ip, nA cs (RM ip) 36864 (RC ip), wd_Raw cs hx (RR ip) (fun k => if k = 2 then (RM ip) else if k = 4 then (some ((PV j71).r 1)) else none) (RF ip) (RA ip) (fun _ _ => none)] := hw
        have lv110 := Int32.le_toInt v110
        have uv110 := Int32.toInt_lt v110
        refine lv_istore_n (lv' := [(3, .int v110), (0, .ref hk), (1, .ref hx), (2, .int p0)]) S.x S.b d_Ker_move_28 rfl hl (by decide) rfl (fun ls hl => ?_)
        refine lv_iload_n S.x S.b d_Ker_move_29 rfl (lv_at hl 0 rfl) ?_
        refine lv_iconst (v := (-1)) S.x S.b d_Ker_move_30 (by decide) ?_
        refine lv_icmp_ne (tgt := 42) S.x S.b d_Ker_move_31 (by decide) (fun c113 => ?_) (fun c113 => ?_)
        · have nc113 : ¬ v110.toInt = (-1 : Int) := mt (i_eq (x := v110) (y := (-1))).mpr c113
          refine lv_iconst (v := 0) S.x S.b d_Ker_move_42 (by decide) ?_
          refine lv_istore (lv' := [(4, .int 0), (3, .int v110), (0, .ref hk), (1, .ref hx), (2, .int p0)]) S.x S.b d_Ker_move_43 hl (by decide) rfl (fun ls hl => ?_)
          have hw : pw D A s.heap _ _ [wd_Ker cs hk kr (fun _ => none) kf ka (gKe pq pz tq rq), fm 13 (fTx cs tq TR TO TF TA), fm 8 (fPp cs pq PV), fo 13 (fRw cs rq RR RM RW RF RA RC) ip, wd_Raw cs hx (RR ip) (fun k => if k = 2 then (RM ip) else if k = 4 then (some ((PV j71).r 1)) else none) (RF ip) (RA ip) (fun _ _ => none), nA cs (RM ip) 36864 (RC ip)] := hw.sub [0, 1, 2, 3, 5, 4] rfl rfl
          have hw : pw D A s.heap _ _ [wd_Ker cs hk kr (fun _ => none) kf ka (gKe pq pz tq rq), fm 13 (fTx cs tq TR TO TF TA), fm 8 (fPp cs pq PV), fm 13 (fRw cs rq RR RM RW RF RA RC)] := frw_back (pr := [wd_Ker cs hk kr (fun _ => none) kf ka (gKe pq pz tq rq), fm 13 (fTx cs tq TR TO TF TA), fm 8 (fPp cs pq PV)]) hw hip hcu.1 hto71
          have hw : pw D A s.heap _ _ [wd_Ker cs hk kr (fun _ => none) kf ka (gKe pq pz tq rq), fm 13 (fTx cs tq TR TO TF TA), fm 13 (fRw cs rq RR RM RW RF RA RC), fm 8 (fPp cs pq PV)] := hw.sub [0, 1, 3, 2] rfl rfl
          exact J45 ((v110.toInt - (0 : Int) + 4294967297).toNat + 1) 0 0 pz tq rq ka TR TO TF TA RR RM RW RF RA RC v110 (0 : Int32) _ _ ls (show KnI pq PV pz tq rq TO TF TA RW RF from hki) (show RoI ka from hro) (show RmI rq RM from hrm) (show CuR pq PV rq RW ip hx from hcu) (show 0 ≤ (0 : Int) from by first | exact oz_5a341f00aa | omega) (show (0 : Int) ≤ 16 from by first | exact oz_43520e740e | omega) (show v110.toInt ≤ 16 from by first | exact e112 | omega) (show 0 ≤ p0.toInt from by first | exact oz_18a5c06a28 nc90 | omega) (show p0.toInt ≤ 7 from by first | exact oz_2516c64904 nc107 | omega) (show (RF ip 14).toInt = 1 from by first | exact g0 | omega) (show 0 + (5 * ndS 13 tq + 4 * ndS 13 rq + ndS 13 RM) ≤ 5 * ndS 13 tq + 4 * ndS 13 rq + ndS 13 RM from by first | exact oz_9d19b050ad | omega) (show 0 + (9804 * ndS 13 tq + 342 * ndS 13 rq + 36864 * ndS 13 RM) ≤ 9804 * ndS 13 tq + 342 * ndS 13 rq + 36864 * ndS 13 RM from by first | exact oz_b5592d0ae7 | omega) (show v110.toInt - (0 : Int) + 4294967297 < ((((v110.toInt - (0 : Int) + 4294967297).toNat + 1 : Nat) : Int) : Int) from by first | exact oz_natlt | omega) hw (lv_sub hl [2, 3, 4, 1, 0] rfl)
        · have nc113 : v110.toInt = (-1 : Int) := (i_eq (x := v110) (y := (-1))).mp c113
          refine lv_aload_n S.x S.b d_Ker_move_34 rfl (lv_at hl 2 rfl) ?_
          refine lv_bipush (v := 7) S.x S.b d_Ker_move_35 (by decide) ?_
          refine lv_iconst (v := 0) S.x S.b d_Ker_move_37 (by decide) ?_
          refine px_callv (pr := [wd_Ker cs hk kr (fun _ => none) kf ka (gKe pq pz tq rq), fm 13 (fTx cs tq TR TO TF TA), fm 8 (fPp cs pq PV), fo 13 (fRw cs rq RR RM RW RF RA RC) ip, nA cs (RM ip) 36864 (RC ip)]) (px_runU (As := [.int 7, .int 0]) (rest := []) S (c_finish_Raw l D cs hx (RR ip) (fun _ _ => none) (RM ip) (some ((PV j71).r 1)) (RF ip) (RA ip) 7 0   _) hT (pr := [wd_Ker cs hk kr (fun _ => none) kf ka (gKe pq pz tq rq), fm 13 (fTx cs tq TR TO TF TA), fm 8 (fPp cs pq PV), fo 13 (fRw cs rq RR RM RW RF RA RC) ip, nA cs (RM ip) 36864 (RC ip)]) (pcs := [wd_Raw cs hx (RR ip) (fun k => if k = 2 then (RM ip) else if k = 4 then (some ((PV j71).r 1)) else none) (RF ip) (RA ip) (fun _ _ => none)]) hw px_X.tt (C := "HomeSystem$RawProcess") (x := ⟨"HomeSystem$AnyProcess", "finish", "(II)V"⟩) (px_recv hT hw 5 0 rfl rfl rfl) m8_89 m8_84 m8_86 m8_85 m8_87 m1_33 rfl q_HomeSystem_AnyProcess_finish ⟨Nat.le_of_ble_eq_true rfl, Nat.le_of_ble_eq_true rfl⟩ hl.1 rfl (Nat.le_of_ble_eq_true rfl) d_Ker_move_38 ⟨show 0 + 0 ≤ (5 * ndS 13 tq + 4 * ndS 13 rq + ndS 13 RM) from (by first | exact oz_9c199dfd7f | omega), show 0 + 0 ≤ (9804 * ndS 13 tq + 342 * ndS 13 rq + 36864 * ndS 13 RM) from (by first | exact oz_54615505fb | omega)⟩) hw hA (fun p117 H locs hp117 hw => ?_)
          obtain ⟨f115, a116, rfl, e119, e120, e121, e122, e123, e124, e125⟩ := hp117
          have e119 : (f115 3).toInt = ((RF ip) 3).toInt := e119
          have e120 : (f115 7).toInt = ((RF ip) 7).toInt := e120
          have e121 : (f115 8).toInt = ((RF ip) 8).toInt := e121
          have e122 : (f115 10).toInt = ((RF ip) 10).toInt := e122
          have e123 : (f115 13).toInt = ((RF ip) 13).toInt := e123
          have e124 : (f115 14).toInt = 0 := e124
          have e125 : (f115 11).toInt = (7 : Int) := e125
          have hw : pw D A s.heap H locs [wd_Ker cs hk kr (fun _ => none) kf ka (gKe pq pz tq rq), fm 13 (fTx cs tq TR TO TF TA), fm 8 (fPp cs pq PV), fo 13 (fRw cs rq RR RM RW RF RA RC) ip, nA cs (RM ip) 36864 (RC ip), wd_Raw cs hx (RR ip) (fun k => if k = 2 then (RM ip) else if k = 4 then (some ((PV j71).r 1)) else none) f115 a116 (fun _ _ => none)] := hw
          have hw : pw D A s.heap _ _ [wd_Ker cs hk kr (fun _ => none) kf ka (gKe pq pz tq rq), fm 13 (fTx cs tq TR TO TF TA), fm 8 (fPp cs pq PV), fo 13 (fRw cs rq RR RM RW RF RA RC) ip, wd_Raw cs hx (RR ip) (fun k => if k = 2 then (RM ip) else if k = 4 then (some ((PV j71).r 1)) else none) f115 a116 (fun _ _ => none), nA cs (RM ip) 36864 (RC ip)] := hw.sub [0, 1, 2, 3, 5, 4] rfl rfl
          have hw := frw_in0 (pr := [wd_Ker cs hk kr (fun _ => none) kf ka (gKe pq pz tq rq), fm 13 (fTx cs tq TR TO TF TA), fm 8 (fPp cs pq PV)]) hw hip hcu.1 hto71
          obtain ⟨RM126, hu_RM126⟩ : ∃ y : Nat → Option Nat, y = va_up RM ip (RM ip) := ⟨_, rfl⟩
          obtain ⟨RF127, hu_RF127⟩ : ∃ y : Nat → Nat → Int32, y = va_up RF ip f115 := ⟨_, rfl⟩
          obtain ⟨RA128, hu_RA128⟩ : ∃ y : Nat → Nat → Nat → Int32, y = va_up RA ip a116 := ⟨_, rfl⟩
          obtain ⟨RC129, hu_RC129⟩ : ∃ y : Nat → Nat → Int32, y = va_up RC ip (RC ip) := ⟨_, rfl⟩
          have hw : pw D A s.heap _ _ [wd_Ker cs hk kr (fun _ => none) kf ka (gKe pq pz tq rq), fm 13 (fTx cs tq TR TO TF TA), fm 8 (fPp cs pq PV), fm 13 (fRw cs rq RR RM126 RW RF127 RA128 RC129)] := (by rw [hu_RM126, hu_RF127, hu_RA128, hu_RC129]; exact hw)
          have hki : KnI pq PV pz tq rq TO TF TA RW RF127 := (by rw [hu_RF127]; exact hki.upR (show RwN ip f115 from ⟨(show (0 ≤ (f115 7).toInt ∧ (f115 7).toInt ≤ 1600) ∧ (0 ≤ (f115 10).toInt ∧ (f115 10).toInt + (f115 7).toInt ≤ 1600) ∧ ((f115 14).toInt = 0 ∨ (f115 14).toInt = 1) ∧ ((f115 14).toInt = 1 → 1 ≤ (f115 7).toInt) from by omega), (show ((f115 8).toInt) = ((ip : Nat) : Int) from by omega), (show 0 ≤ (f115 13).toInt ∧ (f115 13).toInt ≤ 3 ∧ ((f115 13).toInt = 0 ∨ 3 * ((ip : Nat) : Int) + (f115 13).toInt ≤ 12) from by omega)⟩))
          have hrm : RmI rq RM126 := (by rw [hu_RM126]; exact hrm.up hcu.1)
          have hnd_RM126 := ndS_up 13 RM ip (RM ip) hip; rw [← hu_RM126] at hnd_RM126
          have hz14_RF127 : (RF127 ip 14).toInt = (f115 14).toInt := (by rw [hu_RF127, va_up_s]; try rfl)
          have hw : pw D A s.heap _ _ [wd_Ker cs hk kr (fun _ => none) kf ka (gKe pq pz tq rq), fm 13 (fTx cs tq TR TO TF TA), fm 13 (fRw cs rq RR RM126 RW RF127 RA128 RC129), fm 8 (fPp cs pq PV)] := hw.sub [0, 1, 3, 2] rfl rfl
          exact pg_vret S hr hlk hAe hw (show 0 ≤ (5 * ndS 13 tq + 4 * ndS 13 rq + ndS 13 RM) from by first | exact oz_86e49526c7 | omega) (show 0 ≤ (9804 * ndS 13 tq + 342 * ndS 13 rq + 36864 * ndS 13 RM) from by first | exact oz_fc3b58e969 | omega) (⟨pz, tq, rq, ka, TR, TO, TF, TA, RR, RM126, RW, RF127, RA128, RC129, rfl, (show CuR pq PV rq RW ip hx from hcu), (show KnI pq PV pz tq rq TO TF TA RW RF127 from hki), (show RoI ka from hro), (show RmI rq RM126 from hrm), (show 0 + (5 * ndS 13 tq + 4 * ndS 13 rq + ndS 13 RM126) ≤ 5 * ndS 13 tq + 4 * ndS 13 rq + ndS 13 RM from by omega), (show 0 + (9804 * ndS 13 tq + 342 * ndS 13 rq + 36864 * ndS 13 RM126) ≤ 9804 * ndS 13 tq + 342 * ndS 13 rq + 36864 * ndS 13 RM from by omega)⟩) d_Ker_move_41
      · have nc107 : ¬ p0.toInt < (8 : Int) := mt (i_lt (x := p0) (y := 8)).mpr c107
        refine lv_aload_n S.x S.b d_Ker_move_17 rfl (lv_at hl 1 rfl) ?_
        refine lv_iconst (v := 2) S.x S.b d_Ker_move_18 (by decide) ?_
        refine lv_iconst (v := 0) S.x S.b d_Ker_move_19 (by decide) ?_
        have hw : pw D A s.heap _ _ [wd_Ker cs hk kr (fun _ => none) kf ka (gKe pq pz tq rq), fm 13 (fTx cs tq TR TO TF TA), fm 8 (fPp cs pq PV), fo 13 (fRw cs rq RR RM RW RF RA RC) ip, nA cs (RM ip) 36864 (RC ip), wd_Raw cs hx (RR ip) (fun k => if k = 2 then (RM ip) else if k = 4 then (some ((PV j71).r 1)) else none) (RF ip) (RA ip) (fun _ _ => none)] := hw.sub [0, 1, 2, 3, 5, 4] rfl rfl
        refine px_callv (pr := [wd_Ker cs hk kr (fun _ => none) kf ka (gKe pq pz tq rq), fm 13 (fTx cs tq TR TO TF TA), fm 8 (fPp cs pq PV), fo 13 (fRw cs rq RR RM RW RF RA RC) ip, nA cs (RM ip) 36864 (RC ip)]) (px_runU (As := [.int 2, .int 0]) (rest := []) S (c_finish_Raw l D cs hx (RR ip) (fun _ _ => none) (RM ip) (some ((PV j71).r 1)) (RF ip) (RA ip) 2 0   _) hT (pr := [wd_Ker cs hk kr (fun _ => none) kf ka (gKe pq pz tq rq), fm 13 (fTx cs tq TR TO TF TA), fm 8 (fPp cs pq PV), fo 13 (fRw cs rq RR RM RW RF RA RC) ip, nA cs (RM ip) 36864 (RC ip)]) (pcs := [wd_Raw cs hx (RR ip) (fun k => if k = 2 then (RM ip) else if k = 4 then (some ((PV j71).r 1)) else none) (RF ip) (RA ip) (fun _ _ => none)]) hw px_X.tt (C := "HomeSystem$RawProcess") (x := ⟨"HomeSystem$AnyProcess", "finish", "(II)V"⟩) (px_recv hT hw 5 0 rfl rfl rfl) m8_89 m8_84 m8_86 m8_85 m8_87 m1_33 rfl q_HomeSystem_AnyProcess_finish ⟨Nat.le_of_ble_eq_true rfl, Nat.le_of_ble_eq_true rfl⟩ hl.1 rfl (Nat.le_of_ble_eq_true rfl) d_Ker_move_20 ⟨show 0 + 0 ≤ (5 * ndS 13 tq + 4 * ndS 13 rq + ndS 13 RM) from (by first | exact oz_9c199dfd7f | omega), show 0 + 0 ≤ (9804 * ndS 13 tq + 342 * ndS 13 rq + 36864 * ndS 13 RM) from (by first | exact oz_54615505fb | omega)⟩) hw hA (fun p132 H locs hp132 hw => ?_)
        obtain ⟨f130, a131, rfl, e134, e135, e136, e137, e138, e139, e140⟩ := hp132
        have e134 : (f130 3).toInt = ((RF ip) 3).toInt := e134
        have e135 : (f130 7).toInt = ((RF ip) 7).toInt := e135
        have e136 : (f130 8).toInt = ((RF ip) 8).toInt := e136
        have e137 : (f130 10).toInt = ((RF ip) 10).toInt := e137
        have e138 : (f130 13).toInt = ((RF ip) 13).toInt := e138
        have e139 : (f130 14).toInt = 0 := e139
        have e140 : (f130 11).toInt = (2 : Int) := e140
        have hw : pw D A s.heap H locs [wd_Ker cs hk kr (fun _ => none) kf ka (gKe pq pz tq rq), fm 13 (fTx cs tq TR TO TF TA), fm 8 (fPp cs pq PV), fo 13 (fRw cs rq RR RM RW RF RA RC) ip, nA cs (RM ip) 36864 (RC ip), wd_Raw cs hx (RR ip) (fun k => if k = 2 then (RM ip) else if k = 4 then (some ((PV j71).r 1)) else none) f130 a131 (fun _ _ => none)] := hw
        have hw : pw D A s.heap _ _ [wd_Ker cs hk kr (fun _ => none) kf ka (gKe pq pz tq rq), fm 13 (fTx cs tq TR TO TF TA), fm 8 (fPp cs pq PV), fo 13 (fRw cs rq RR RM RW RF RA RC) ip, wd_Raw cs hx (RR ip) (fun k => if k = 2 then (RM ip) else if k = 4 then (some ((PV j71).r 1)) else none) f130 a131 (fun _ _ => none), nA cs (RM ip) 36864 (RC ip)] := hw.sub [0, 1, 2, 3, 5, 4] rfl rfl
        have hw := frw_in0 (pr := [wd_Ker cs hk kr (fun _ => none) kf ka (gKe pq pz tq rq), fm 13 (fTx cs tq TR TO TF TA), fm 8 (fPp cs pq PV)]) hw hip hcu.1 hto71
        obtain ⟨RM141, hu_RM141⟩ : ∃ y : Nat → Option Nat, y = va_up RM ip (RM ip) := ⟨_, rfl⟩
        obtain ⟨RF142, hu_RF142⟩ : ∃ y : Nat → Nat → Int32, y = va_up RF ip f130 := ⟨_, rfl⟩
        obtain ⟨RA143, hu_RA143⟩ : ∃ y : Nat → Nat → Nat → Int32, y = va_up RA ip a131 := ⟨_, rfl⟩
        obtain ⟨RC144, hu_RC144⟩ : ∃ y : Nat → Nat → Int32, y = va_up RC ip (RC ip) := ⟨_, rfl⟩
        have hw : pw D A s.heap _ _ [wd_Ker cs hk kr (fun _ => none) kf ka (gKe pq pz tq rq), fm 13 (fTx cs tq TR TO TF TA), fm 8 (fPp cs pq PV), fm 13 (fRw cs rq RR RM141 RW RF142 RA143 RC144)] := (by rw [hu_RM141, hu_RF142, hu_RA143, hu_RC144]; exact hw)
        have hki : KnI pq PV pz tq rq TO TF TA RW RF142 := (by rw [hu_RF142]; exact hki.upR (show RwN ip f130 from ⟨(show (0 ≤ (f130 7).toInt ∧ (f130 7).toInt ≤ 1600) ∧ (0 ≤ (f130 10).toInt ∧ (f130 10).toInt + (f130 7).toInt ≤ 1600) ∧ ((f130 14).toInt = 0 ∨ (f130 14).toInt = 1) ∧ ((f130 14).toInt = 1 → 1 ≤ (f130 7).toInt) from by omega), (show ((f130 8).toInt) = ((ip : Nat) : Int) from by omega), (show 0 ≤ (f130 13).toInt ∧ (f130 13).toInt ≤ 3 ∧ ((f130 13).toInt = 0 ∨ 3 * ((ip : Nat) : Int) + (f130 13).toInt ≤ 12) from by omega)⟩))
        have hrm : RmI rq RM141 := (by rw [hu_RM141]; exact hrm.up hcu.1)
        have hnd_RM141 := ndS_up 13 RM ip (RM ip) hip; rw [← hu_RM141] at hnd_RM141
        have hz14_RF142 : (RF142 ip 14).toInt = (f130 14).toInt := (by rw [hu_RF142, va_up_s]; try rfl)
        have hw : pw D A s.heap _ _ [wd_Ker cs hk kr (fun _ => none) kf ka (gKe pq pz tq rq), fm 13 (fTx cs tq TR TO TF TA), fm 13 (fRw cs rq RR RM141 RW RF142 RA143 RC144), fm 8 (fPp cs pq PV)] := hw.sub [0, 1, 3, 2] rfl rfl
        exact pg_vret S hr hlk hAe hw (show 0 ≤ (5 * ndS 13 tq + 4 * ndS 13 rq + ndS 13 RM) from by first | exact oz_86e49526c7 | omega) (show 0 ≤ (9804 * ndS 13 tq + 342 * ndS 13 rq + 36864 * ndS 13 RM) from by first | exact oz_fc3b58e969 | omega) (⟨pz, tq, rq, ka, TR, TO, TF, TA, RR, RM141, RW, RF142, RA143, RC144, rfl, (show CuR pq PV rq RW ip hx from hcu), (show KnI pq PV pz tq rq TO TF TA RW RF142 from hki), (show RoI ka from hro), (show RmI rq RM141 from hrm), (show 0 + (5 * ndS 13 tq + 4 * ndS 13 rq + ndS 13 RM141) ≤ 5 * ndS 13 tq + 4 * ndS 13 rq + ndS 13 RM from by omega), (show 0 + (9804 * ndS 13 tq + 342 * ndS 13 rq + 36864 * ndS 13 RM141) ≤ 9804 * ndS 13 tq + 342 * ndS 13 rq + 36864 * ndS 13 RM from by omega)⟩) d_Ker_move_23
