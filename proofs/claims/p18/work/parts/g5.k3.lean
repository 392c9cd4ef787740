theorem oz_dca5c4e7e4 {n0 n1 n2 n3 n4 n5 n6 : Nat} (h0 : n0 + (5 * n4 + 4 * n5 + n6) ≤ 5 * n1 + 4 * n2 + n3) : n0 ≤ (5 * n1 + 4 * n2 + n3) := by omega
theorem oz_f7eb847e67 {n0 n1 n2 n3 n4 n5 n6 : Nat} (h0 : n0 + (9804 * n4 + 342 * n5 + 36864 * n6) ≤ 9804 * n1 + 342 * n2 + 36864 * n3) : n0 ≤ (9804 * n1 + 342 * n2 + 36864 * n3) := by omega
theorem oz_903bb5f34d {a0 a1 a2 a3 : Int} (h0 : a0 = a1 + a2) (h1 : 0 ≤ a2) (h2 : a1 = 16 * a3) (h3 : 0 ≤ a3) (h4 : ¬ (16 : Int) ≤ a2) (h5 : a3 ≤ 7) : 0 ≤ a0 ∧ a0 < ((128 : Nat) : Int) := by omega
theorem oz_2516c64904 {a0 : Int} (h0 : a0 < (8 : Int)) : a0 ≤ 7 := by omega
theorem m8_130 : Cond.methodLink "HomeSystem$Kernel" 155 ⟨"HomeSystem$AnyProcess", "wordToMove", "(I)I"⟩ ∈ AL := AL_8 (List.mem_of_getElem? (i := 130) rfl) rfl
theorem m8_142 : Cond.code ⟨"HomeSystem$TextProcess", "wordToMove", "(I)I"⟩ prog_11_method_6_code 2 (Option.some FieldType.int) ∈ AL := AL_8 (List.mem_of_getElem? (i := 142) rfl) rfl
theorem m8_132 : Cond.sameMethod "HomeSystem$AnyProcess" "HomeSystem$AnyProcess" "wordToMove" "(I)I" ∈ AL := AL_8 (List.mem_of_getElem? (i := 132) rfl) rfl
theorem m8_141 : Cond.instanceMethod ⟨"HomeSystem$TextProcess", "wordToMove", "(I)I"⟩ ∈ AL := AL_8 (List.mem_of_getElem? (i := 141) rfl) rfl
theorem m8_140 : Cond.selects "HomeSystem$TextProcess" ⟨"HomeSystem$AnyProcess", "wordToMove", "(I)I"⟩ ⟨"HomeSystem$TextProcess", "wordToMove", "(I)I"⟩ ∈ AL := AL_8 (List.mem_of_getElem? (i := 140) rfl) rfl
theorem m8_131n : Cond.declares ⟨"HomeSystem$AnyProcess", "wordToMove", "(I)I"⟩ ∈ tables_1 := by unfold tables_1; exact List.mem_append_right _ (List.mem_append_right _ (List.mem_append_right _ (List.mem_append_right _ (List.mem_append_right _ (List.mem_append_right _ (List.mem_append_right _ (List.mem_append_left _ (List.mem_of_getElem? (i := 131) rfl))))))))
theorem m8_111 : Cond.methodLink "HomeSystem$Kernel" 152 ⟨"HomeSystem$AnyProcess", "moveWord", "(II)V"⟩ ∈ AL := AL_8 (List.mem_of_getElem? (i := 111) rfl) rfl
theorem m8_125 : Cond.code ⟨"HomeSystem$TextProcess", "moveWord", "(II)V"⟩ prog_11_method_7_code 3 (Option.none : Option Jvm.ClassFile.FieldType) ∈ AL := AL_8 (List.mem_of_getElem? (i := 125) rfl) rfl
theorem m8_113 : Cond.sameMethod "HomeSystem$AnyProcess" "HomeSystem$AnyProcess" "moveWord" "(II)V" ∈ AL := AL_8 (List.mem_of_getElem? (i := 113) rfl) rfl
theorem m8_124 : Cond.instanceMethod ⟨"HomeSystem$TextProcess", "moveWord", "(II)V"⟩ ∈ AL := AL_8 (List.mem_of_getElem? (i := 124) rfl) rfl
theorem m8_123 : Cond.selects "HomeSystem$TextProcess" ⟨"HomeSystem$AnyProcess", "moveWord", "(II)V"⟩ ⟨"HomeSystem$TextProcess", "moveWord", "(II)V"⟩ ∈ AL := AL_8 (List.mem_of_getElem? (i := 123) rfl) rfl
theorem m8_112n : Cond.declares ⟨"HomeSystem$AnyProcess", "moveWord", "(II)V"⟩ ∈ tables_1 := by unfold tables_1; exact List.mem_append_right _ (List.mem_append_right _ (List.mem_append_right _ (List.mem_append_right _ (List.mem_append_right _ (List.mem_append_right _ (List.mem_append_right _ (List.mem_append_left _ (List.mem_of_getElem? (i := 112) rfl))))))))
theorem m8_90 : Cond.methodLink "HomeSystem$Kernel" 148 ⟨"HomeSystem$AnyProcess", "movable", "()I"⟩ ∈ AL := AL_8 (List.mem_of_getElem? (i := 90) rfl) rfl
theorem m8_110 : Cond.code ⟨"HomeSystem$TextProcess", "movable", "()I"⟩ prog_11_method_5_code 1 (Option.some FieldType.int) ∈ AL := AL_8 (List.mem_of_getElem? (i := 110) rfl) rfl
theorem m8_92 : Cond.sameMethod "HomeSystem$AnyProcess" "HomeSystem$AnyProcess" "movable" "()I" ∈ AL := AL_8 (List.mem_of_getElem? (i := 92) rfl) rfl
theorem m8_109 : Cond.instanceMethod ⟨"HomeSystem$TextProcess", "movable", "()I"⟩ ∈ AL := AL_8 (List.mem_of_getElem? (i := 109) rfl) rfl
theorem m8_108 : Cond.selects "HomeSystem$TextProcess" ⟨"HomeSystem$AnyProcess", "movable", "()I"⟩ ⟨"HomeSystem$TextProcess", "movable", "()I"⟩ ∈ AL := AL_8 (List.mem_of_getElem? (i := 108) rfl) rfl
theorem m8_91n : Cond.declares ⟨"HomeSystem$AnyProcess", "movable", "()I"⟩ ∈ tables_1 := by unfold tables_1; exact List.mem_append_right _ (List.mem_append_right _ (List.mem_append_right _ (List.mem_append_right _ (List.mem_append_right _ (List.mem_append_right _ (List.mem_append_right _ (List.mem_append_left _ (List.mem_of_getElem? (i := 91) rfl))))))))
theorem m8_135 : Cond.code ⟨"HomeSystem$RawProcess", "wordToMove", "(I)I"⟩ prog_8_method_6_code 2 (Option.some FieldType.int) ∈ AL := AL_8 (List.mem_of_getElem? (i := 135) rfl) rfl
theorem m8_134 : Cond.instanceMethod ⟨"HomeSystem$RawProcess", "wordToMove", "(I)I"⟩ ∈ AL := AL_8 (List.mem_of_getElem? (i := 134) rfl) rfl
theorem m8_133 : Cond.selects "HomeSystem$RawProcess" ⟨"HomeSystem$AnyProcess", "wordToMove", "(I)I"⟩ ⟨"HomeSystem$RawProcess", "wordToMove", "(I)I"⟩ ∈ AL := AL_8 (List.mem_of_getElem? (i := 133) rfl) rfl
theorem m8_116 : Cond.code ⟨"HomeSystem$RawProcess", "moveWord", "(II)V"⟩ prog_8_method_7_code 3 (Option.none : Option Jvm.ClassFile.FieldType) ∈ AL := AL_8 (List.mem_of_getElem? (i := 116) rfl) rfl
theorem m8_115 : Cond.instanceMethod ⟨"HomeSystem$RawProcess", "moveWord", "(II)V"⟩ ∈ AL := AL_8 (List.mem_of_getElem? (i := 115) rfl) rfl
theorem m8_114 : Cond.selects "HomeSystem$RawProcess" ⟨"HomeSystem$AnyProcess", "moveWord", "(II)V"⟩ ⟨"HomeSystem$RawProcess", "moveWord", "(II)V"⟩ ∈ AL := AL_8 (List.mem_of_getElem? (i := 114) rfl) rfl
theorem m8_95 : Cond.code ⟨"HomeSystem$RawProcess", "movable", "()I"⟩ prog_8_method_5_code 5 (Option.some FieldType.int) ∈ AL := AL_8 (List.mem_of_getElem? (i := 95) rfl) rfl
theorem m8_94 : Cond.instanceMethod ⟨"HomeSystem$RawProcess", "movable", "()I"⟩ ∈ AL := AL_8 (List.mem_of_getElem? (i := 94) rfl) rfl
theorem m8_93 : Cond.selects "HomeSystem$RawProcess" ⟨"HomeSystem$AnyProcess", "movable", "()I"⟩ ⟨"HomeSystem$RawProcess", "movable", "()I"⟩ ∈ AL := AL_8 (List.mem_of_getElem? (i := 93) rfl) rfl
abbrev b_Ker_move : ByteArray := prog_4_method_12_code
def y_Ker_move : MethodName := ⟨"HomeSystem$Kernel", "move", "(LHomeSystem$AnyProcess;I)V"⟩
theorem d_Ker_move_0 : decode b_Ker_move 0 = .ok (.aload_n 1, 1) := by decide +kernel
theorem d_Ker_move_1 : decode b_Ker_move 1 = .ok (.getfield 101, 3) := by decide +kernel
theorem d_Ker_move_4 : decode b_Ker_move 4 = .ok (.ifCond .ne 13, 3) := by decide +kernel
theorem d_Ker_move_7 : decode b_Ker_move 7 = .ok (.iload_n 2, 1) := by decide +kernel
theorem d_Ker_move_8 : decode b_Ker_move 8 = .ok (.ifCond .lt 9, 3) := by decide +kernel
theorem d_Ker_move_11 : decode b_Ker_move 11 = .ok (.iload_n 2, 1) := by decide +kernel
theorem d_Ker_move_12 : decode b_Ker_move 12 = .ok (.bipush 8, 2) := by decide +kernel
theorem d_Ker_move_14 : decode b_Ker_move 14 = .ok (.if_icmp .lt 10, 3) := by decide +kernel
theorem d_Ker_move_17 : decode b_Ker_move 17 = .ok (.aload_n 1, 1) := by decide +kernel
theorem d_Ker_move_18 : decode b_Ker_move 18 = .ok (.iconst 2, 1) := by decide +kernel
theorem d_Ker_move_19 : decode b_Ker_move 19 = .ok (.iconst 0, 1) := by decide +kernel
theorem d_Ker_move_20 : decode b_Ker_move 20 = .ok (.invokevirtual 74, 3) := by decide +kernel
theorem d_Ker_move_23 : decode b_Ker_move 23 = .ok (.return_, 1) := by decide +kernel
theorem d_Ker_move_24 : decode b_Ker_move 24 = .ok (.aload_n 1, 1) := by decide +kernel
theorem d_Ker_move_25 : decode b_Ker_move 25 = .ok (.invokevirtual 148, 3) := by decide +kernel
theorem d_Ker_move_28 : decode b_Ker_move 28 = .ok (.istore_n 3, 1) := by decide +kernel
theorem d_Ker_move_29 : decode b_Ker_move 29 = .ok (.iload_n 3, 1) := by decide +kernel
theorem d_Ker_move_30 : decode b_Ker_move 30 = .ok (.iconst (-1), 1) := by decide +kernel
theorem d_Ker_move_31 : decode b_Ker_move 31 = .ok (.if_icmp .ne 11, 3) := by decide +kernel
theorem d_Ker_move_34 : decode b_Ker_move 34 = .ok (.aload_n 1, 1) := by decide +kernel
theorem d_Ker_move_35 : decode b_Ker_move 35 = .ok (.bipush 7, 2) := by decide +kernel
theorem d_Ker_move_37 : decode b_Ker_move 37 = .ok (.iconst 0, 1) := by decide +kernel
theorem d_Ker_move_38 : decode b_Ker_move 38 = .ok (.invokevirtual 74, 3) := by decide +kernel
theorem d_Ker_move_41 : decode b_Ker_move 41 = .ok (.return_, 1) := by decide +kernel
theorem d_Ker_move_42 : decode b_Ker_move 42 = .ok (.iconst 0, 1) := by decide +kernel
theorem d_Ker_move_43 : decode b_Ker_move 43 = .ok (.istore 4, 2) := by decide +kernel
theorem d_Ker_move_45 : decode b_Ker_move 45 = .ok (.iload 4, 2) := by decide +kernel
theorem d_Ker_move_47 : decode b_Ker_move 47 = .ok (.iload_n 3, 1) := by decide +kernel
theorem d_Ker_move_48 : decode b_Ker_move 48 = .ok (.if_icmp .ge 64, 3) := by decide +kernel
theorem d_Ker_move_51 : decode b_Ker_move 51 = .ok (.iload 4, 2) := by decide +kernel
theorem d_Ker_move_53 : decode b_Ker_move 53 = .ok (.bipush 16, 2) := by decide +kernel
theorem d_Ker_move_55 : decode b_Ker_move 55 = .ok (.if_icmp .ge 57, 3) := by decide +kernel
theorem d_Ker_move_58 : decode b_Ker_move 58 = .ok (.aload_n 1, 1) := by decide +kernel
theorem d_Ker_move_59 : decode b_Ker_move 59 = .ok (.getfield 108, 3) := by decide +kernel
theorem d_Ker_move_62 : decode b_Ker_move 62 = .ok (.bipush 7, 2) := by decide +kernel
theorem d_Ker_move_64 : decode b_Ker_move 64 = .ok (.if_icmp .ne 24, 3) := by decide +kernel
theorem d_Ker_move_67 : decode b_Ker_move 67 = .ok (.aload_n 1, 1) := by decide +kernel
theorem d_Ker_move_68 : decode b_Ker_move 68 = .ok (.iload 4, 2) := by decide +kernel
theorem d_Ker_move_70 : decode b_Ker_move 70 = .ok (.aload_n 0, 1) := by decide +kernel
theorem d_Ker_move_71 : decode b_Ker_move 71 = .ok (.getfield 17, 3) := by decide +kernel
theorem d_Ker_move_74 : decode b_Ker_move 74 = .ok (.bipush 16, 2) := by decide +kernel
theorem d_Ker_move_76 : decode b_Ker_move 76 = .ok (.iload_n 2, 1) := by decide +kernel
theorem d_Ker_move_77 : decode b_Ker_move 77 = .ok (.imul, 1) := by decide +kernel
theorem d_Ker_move_78 : decode b_Ker_move 78 = .ok (.iload 4, 2) := by decide +kernel
theorem d_Ker_move_80 : decode b_Ker_move 80 = .ok (.iadd, 1) := by decide +kernel
theorem d_Ker_move_81 : decode b_Ker_move 81 = .ok (.iaload, 1) := by decide +kernel
theorem d_Ker_move_82 : decode b_Ker_move 82 = .ok (.invokevirtual 152, 3) := by decide +kernel
theorem d_Ker_move_85 : decode b_Ker_move 85 = .ok (.goto 21, 3) := by decide +kernel
theorem d_Ker_move_88 : decode b_Ker_move 88 = .ok (.aload_n 0, 1) := by decide +kernel
theorem d_Ker_move_89 : decode b_Ker_move 89 = .ok (.getfield 17, 3) := by decide +kernel
theorem d_Ker_move_92 : decode b_Ker_move 92 = .ok (.bipush 16, 2) := by decide +kernel
theorem d_Ker_move_94 : decode b_Ker_move 94 = .ok (.iload_n 2, 1) := by decide +kernel
theorem d_Ker_move_95 : decode b_Ker_move 95 = .ok (.imul, 1) := by decide +kernel
theorem d_Ker_move_96 : decode b_Ker_move 96 = .ok (.iload 4, 2) := by decide +kernel
theorem d_Ker_move_98 : decode b_Ker_move 98 = .ok (.iadd, 1) := by decide +kernel
theorem d_Ker_move_99 : decode b_Ker_move 99 = .ok (.aload_n 1, 1) := by decide +kernel
theorem d_Ker_move_100 : decode b_Ker_move 100 = .ok (.iload 4, 2) := by decide +kernel
theorem d_Ker_move_102 : decode b_Ker_move 102 = .ok (.invokevirtual 155, 3) := by decide +kernel
theorem d_Ker_move_105 : decode b_Ker_move 105 = .ok (.iastore, 1) := by decide +kernel
theorem d_Ker_move_106 : decode b_Ker_move 106 = .ok (.iinc 4 1, 3) := by decide +kernel
theorem d_Ker_move_109 : decode b_Ker_move 109 = .ok (.goto (-64), 3) := by decide +kernel
theorem d_Ker_move_112 : decode b_Ker_move 112 = .ok (.aload_n 1, 1) := by decide +kernel
theorem d_Ker_move_113 : decode b_Ker_move 113 = .ok (.iconst 0, 1) := by decide +kernel
theorem d_Ker_move_114 : decode b_Ker_move 114 = .ok (.invokevirtual 117, 3) := by decide +kernel
theorem d_Ker_move_117 : decode b_Ker_move 117 = .ok (.return_, 1) := by decide +kernel
theorem q_Ker_move : px_y y_Ker_move 2 := by unfold px_y; decide +kernel
set_option maxHeartbeats 4000000 in
set_option maxRecDepth 100000 in
theorem c_k_move_T (l : Launch) (D : va_G) (cs : Nat → ClassId) (hk : Nat) (kr : Nat → Nat) (pq : Nat → Option Nat) (kf : Nat → Int32) (PV : Nat → Pvs) (pz : Nat → Option Nat) (tq : Nat → Option Nat) (rq : Nat → Option Nat) (ka : Nat → Nat → Int32) (TR : Nat → Nat → Nat) (TO : Nat → Option Nat) (TF : Nat → Nat → Int32) (TA : Nat → Nat → Nat → Int32) (RR : Nat → Nat → Nat) (RM : Nat → Option Nat) (RW : Nat → Option Nat) (RF : Nat → Nat → Int32) (RA : Nat → Nat → Nat → Int32) (RC : Nat → Nat → Int32) (p0 : Int32) (ip hx : Nat) (g0 : (TF ip 21).toInt = 1) (hki : KnI pq PV pz tq rq TO TF TA RW RF) (hro : RoI ka) (hrm : RmI rq RM) (hip : ip < 13) (hcu : CuT pq PV tq TO ip hx) : MgV l y_Ker_move b_Ker_move 5 D cs 6 240 ((5 * ndS 13 tq + 4 * ndS 13 rq + ndS 13 RM)) ((9804 * ndS 13 tq + 342 * ndS 13 rq + 36864 * ndS 13 RM)) [.ref hk, .ref hx, .int p0] [wd_Ker cs hk kr (fun _ => none) kf ka (gKe pq pz tq rq), fm 13 (fTx cs tq TR TO TF TA), fm 13 (fRw cs rq RR RM RW RF RA RC), fm 8 (fPp cs pq PV)] (fun _ => True) (fun ps => ∃ (pz' : Nat → Option Nat) (tq' : Nat → Option Nat) (rq' : Nat → Option Nat) (ka' : Nat → Nat → Int32) (TR' : Nat → Nat → Nat) (TO' : Nat → Option Nat) (TF' : Nat → Nat → Int32) (TA' : Nat → Nat → Nat → Int32) (RR' : Nat → Nat → Nat) (RM' : Nat → Option Nat) (RW' : Nat → Option Nat) (RF' : Nat → Nat → Int32) (RA' : Nat → Nat → Nat → Int32) (RC' : Nat → Nat → Int32), (ps.1 = [wd_Ker cs hk kr (fun _ => none) kf ka' (gKe pq pz' tq' rq'), fm 13 (fTx cs tq' TR' TO' TF' TA'), fm 13 (fRw cs rq' RR' RM' RW' RF' RA' RC'), fm 8 (fPp cs pq PV)]) ∧ (CuT pq PV tq' TO' ip hx) ∧ (KnI pq PV pz' tq' rq' TO' TF' TA' RW' RF') ∧ (RoI ka') ∧ (RmI rq' RM') ∧ (ps.2.1 + (5 * ndS 13 tq' + 4 * ndS 13 rq' + ndS 13 RM') ≤ 5 * ndS 13 tq + 4 * ndS 13 rq + ndS 13 RM) ∧ (ps.2.2 + (9804 * ndS 13 tq' + 342 * ndS 13 rq' + 36864 * ndS 13 RM') ≤ 9804 * ndS 13 tq + 342 * ndS 13 rq + 36864 * ndS 13 RM)) := by
  refine pg_enter (by decide) (Nat.le_of_ble_eq_true rfl) ?_
  intro p e s m below meth c A ls hAe S hr hlk hnm hA hT hX hw hl
  replace hl : lv_has ls 5 [(0, .ref hk), (1, .ref hx), (2, .int p0)] := hl
  have lp0 := Int32.le_toInt p0
  have up0 := Int32.toInt_lt p0
  have cstm1 : ((-1) : Int32).toInt = (-1) := rfl
  have cst0 : (0 : Int32).toInt = 0 := rfl
  have cst2 : (2 : Int32).toInt = 2 := rfl
  have cst7 : (7 : Int32).toInt = 7 := rfl
  have cst8 : (8 : Int32).toInt = 8 := rfl
  have cst16 : (16 : Int32).toInt = 16 := rfl
  have J45 : ∀ (n_45 : Nat) (ce_45 sl_45 : Nat) (pz_45 : Nat → Option Nat) (tq_45 : Nat → Option Nat) (rq_45 : Nat → Option Nat) (ka_45 : Nat → Nat → Int32) (TR_45 : Nat → Nat → Nat) (TO_45 : Nat → Option Nat) (TF_45 : Nat → Nat → Int32) (TA_45 : Nat → Nat → Nat → Int32) (RR_45 : Nat → Nat → Nat) (RM_45 : Nat → Option Nat) (RW_45 : Nat → Option Nat) (RF_45 : Nat → Nat → Int32) (RA_45 : Nat → Nat → Nat → Int32) (RC_45 : Nat → Nat → Int32) (x45_3 x45_4 : Int32) (H : Heap) (locs : List Loc) (ls : Array Slot), (KnI pq PV pz_45 tq_45 rq_45 TO_45 TF_45 TA_45 RW_45 RF_45) → (RoI ka_45) → (RmI rq_45 RM_45) → (CuT pq PV tq_45 TO_45 ip hx) → (0 ≤ x45_4.toInt) → (x45_4.toInt ≤ 16) → (x45_3.toInt ≤ 16) → (0 ≤ p0.toInt) → (p0.toInt ≤ 7) → (ce_45 + (5 * ndS 13 tq_45 + 4 * ndS 13 rq_45 + ndS 13 RM_45) ≤ 5 * ndS 13 tq + 4 * ndS 13 rq + ndS 13 RM) → (sl_45 + (9804 * ndS 13 tq_45 + 342 * ndS 13 rq_45 + 36864 * ndS 13 RM_45) ≤ 9804 * ndS 13 tq + 342 * ndS 13 rq + 36864 * ndS 13 RM) → x45_3.toInt - x45_4.toInt + 4294967297 < (n_45 : Int) → pw D A s.heap H locs [wd_Ker cs hk kr (fun _ => none) kf ka_45 (gKe pq pz_45 tq_45 rq_45), fm 13 (fTx cs tq_45 TR_45 TO_45 TF_45 TA_45), fm 13 (fRw cs rq_45 RR_45 RM_45 RW_45 RF_45 RA_45 RC_45), fm 8 (fPp cs pq PV)] → lv_has ls 5 [(0, .ref hk), (1, .ref hx), (2, .int p0), (3, .int x45_3), (4, .int x45_4)] → W p l e { frames := 6, cells := (5 * ndS 13 tq + 4 * ndS 13 rq + ndS 13 RM), slots := (9804 * ndS 13 tq + 342 * ndS 13 rq + 36864 * ndS 13 RM), locals := 240 } s m [.ref hk, .ref hx, .int p0].toArray below meth c H locs ce_45 sl_45 (MQ below (va_Qv (fun ps => ∃ (pz' : Nat → Option Nat) (tq' : Nat → Option Nat) (rq' : Nat → Option Nat) (ka' : Nat → Nat → Int32) (TR' : Nat → Nat → Nat) (TO' : Nat → Option Nat) (TF' : Nat → Nat → Int32) (TA' : Nat → Nat → Nat → Int32) (RR' : Nat → Nat → Nat) (RM' : Nat → Option Nat) (RW' : Nat → Option Nat) (RF' : Nat → Nat → Int32) (RA' : Nat → Nat → Nat → Int32) (RC' : Nat → Nat → Int32), (ps.1 = [wd_Ker cs hk kr (fun _ => none) kf ka' (gKe pq pz' tq' rq'), fm 13 (fTx cs tq' TR' TO' TF' TA'), fm 13 (fRw cs rq' RR' RM' RW' RF' RA' RC'), fm 8 (fPp cs pq PV)]) ∧ (CuT pq PV tq' TO' ip hx) ∧ (KnI pq PV pz' tq' rq' TO' TF' TA' RW' RF') ∧ (RoI ka') ∧ (RmI rq' RM') ∧ (ps.2.1 + (5 * ndS 13 tq' + 4 * ndS 13 rq' + ndS 13 RM') ≤ 5 * ndS 13 tq + 4 * ndS 13 rq + ndS 13 RM) ∧ (ps.2.2 + (9804 * ndS 13 tq' + 342 * ndS 13 rq' + 36864 * ndS 13 RM') ≤ 9804 * ndS 13 tq + 342 * ndS 13 rq + 36864 * ndS 13 RM)) (pg_B D (va_A ([wd_Ker cs hk kr (fun _ => none) kf ka (gKe pq pz tq rq), fm 13 (fTx cs tq TR TO TF TA), fm 13 (fRw cs rq RR RM RW RF RA RC), fm 8 (fPp cs pq PV)] : List va_W).flatten s.heap.size) s.heap.size (tot s.heap)) (va_A ([wd_Ker cs hk kr (fun _ => none) kf ka (gKe pq pz tq rq), fm 13 (fTx cs tq TR TO TF TA), fm 13 (fRw cs rq RR RM RW RF RA RC), fm 8 (fPp cs pq PV)] : List va_W).flatten s.heap.size)) [.ref hk, .ref hx, .int p0].toArray s (5 * ndS 13 tq + 4 * ndS 13 rq + ndS 13 RM) (9804 * ndS 13 tq + 342 * ndS 13 rq + 36864 * ndS 13 RM) A) (F0 m 45 ls []) := by
    intro  n_45
    induction n_45 with
    | zero =>
      intro ce_45 sl_45 pz_45 tq_45 rq_45 ka_45 TR_45 TO_45 TF_45 TA_45 RR_45 RM_45 RW_45 RF_45 RA_45 RC_45 x45_3 x45_4 H locs ls k45_0 k45_1 k45_2 k45_3 k45_4 k45_5 k45_6 k45_7 k45_8 k45_9 k45_10 hm hw hl
      have lx45_3 := Int32.le_toInt x45_3
      have ux45_3 := Int32.toInt_lt x45_3
      have lx45_4 := Int32.le_toInt x45_4
      have ux45_4 := Int32.toInt_lt x45_4
      have hki := k45_0
      have hro := k45_1
      have hrm := k45_2
      obtain ⟨j1, hp1, hj1, hjq1, hto1, hf01⟩ := k45_3.2
      exact absurd hm (by omega)
    | succ n_45 ih45 =>
      intro ce_45 sl_45 pz_45 tq_45 rq_45 ka_45 TR_45 TO_45 TF_45 TA_45 RR_45 RM_45 RW_45 RF_45 RA_45 RC_45 x45_3 x45_4 H locs ls k45_0 k45_1 k45_2 k45_3 k45_4 k45_5 k45_6 k45_7 k45_8 k45_9 k45_10 hm hw hl
      have lx45_3 := Int32.le_toInt x45_3
      have ux45_3 := Int32.toInt_lt x45_3
      have lx45_4 := Int32.le_toInt x45_4
      have ux45_4 := Int32.toInt_lt x45_4
      have hki := k45_0
      have hro := k45_1
      have hrm := k45_2
      obtain ⟨j2, hp2, hj2, hjq2, hto2, hf02⟩ := k45_3.2
      refine lv_iload S.x S.b d_Ker_move_45 (lv_at hl 4 rfl) ?_
      refine lv_iload_n S.x S.b d_Ker_move_47 rfl (lv_at hl 3 rfl) ?_
      refine lv_icmp_ge (tgt := 112) S.x S.b d_Ker_move_48 (by decide) (fun c3 => ?_) (fun c3 => ?_)
      · have nc3 : x45_3.toInt ≤ x45_4.toInt := (i_le (x := x45_3) (y := x45_4)).mp c3
        refine lv_aload_n S.x S.b d_Ker_move_112 rfl (lv_at hl 1 rfl) ?_
        refine lv_iconst (v := 0) S.x S.b d_Ker_move_113 (by decide) ?_
        have hw : pw D A s.heap _ _ [wd_Ker cs hk kr (fun _ => none) kf ka_45 (gKe pq pz_45 tq_45 rq_45), fm 13 (fRw cs rq_45 RR_45 RM_45 RW_45 RF_45 RA_45 RC_45), fm 8 (fPp cs pq PV), fm 13 (fTx cs tq_45 TR_45 TO_45 TF_45 TA_45)] := hw.sub [0, 2, 3, 1] rfl rfl
        have hw : pw D A s.heap _ _ [wd_Ker cs hk kr (fun _ => none) kf ka_45 (gKe pq pz_45 tq_45 rq_45), fm 13 (fRw cs rq_45 RR_45 RM_45 RW_45 RF_45 RA_45 RC_45), fm 8 (fPp cs pq PV), fo 13 (fTx cs tq_45 TR_45 TO_45 TF_45 TA_45) ip, wd_Txp cs hx (TR_45 ip) (fun k => if k = 3 then (some hp2) else none) (TF_45 ip) (TA_45 ip) (fun _ _ => none)] := ftx_out (pr := [wd_Ker cs hk kr (fun _ => none) kf ka_45 (gKe pq pz_45 tq_45 rq_45), fm 13 (fRw cs rq_45 RR_45 RM_45 RW_45 RF_45 RA_45 RC_45), fm 8 (fPp cs pq PV)]) hw hip k45_3.1 hto2
        have htn4 : TxN ip (TF_45 ip) (TA_45 ip) := hki.2.1 ip hip _ k45_3.1
        obtain ⟨lk, ⟨i2, i3⟩, ⟨i4, i5⟩, ⟨i6, i7⟩, i8, ⟨i9, i11⟩, i10, hrt⟩ := htn4.1
        have hid4 := htn4.2.1
        have hch4 := htn4.2.2
        unfold KcI at hch4
        refine px_callv (pr := [wd_Ker cs hk kr (fun _ => none) kf ka_45 (gKe pq pz_45 tq_45 rq_45), fm 13 (fRw cs rq_45 RR_45 RM_45 RW_45 RF_45 RA_45 RC_45), fm 8 (fPp cs pq PV), fo 13 (fTx cs tq_45 TR_45 TO_45 TF_45 TA_45) ip]) (px_runA (As := [.int 0]) (rest := []) S (c_Txp_answer l D cs hx (TR_45 ip) (fun _ _ => none) hp2 (TF_45 ip) (TA_45 ip) 0  (show TxOk ((TF_45 ip) 4) ((TF_45 ip) 5) ((TF_45 ip) 8) ((TF_45 ip) 9) ((TF_45 ip) 17) 0 ((TA_45 ip) 2) from ⟨(by first | exact lk | exact lk_eq lk (by omega) | exact lk_mk (by omega)), ⟨by omega, by omega⟩, ⟨by omega, by omega⟩, ⟨by omega, by omega⟩, by omega, ⟨by decide, by decide⟩, (by show _ + _ + (0 : Int) ≤ 100; omega), hrt⟩) _) hT (pr := [wd_Ker cs hk kr (fun _ => none) kf ka_45 (gKe pq pz_45 tq_45 rq_45), fm 13 (fRw cs rq_45 RR_45 RM_45 RW_45 RF_45 RA_45 RC_45), fm 8 (fPp cs pq PV), fo 13 (fTx cs tq_45 TR_45 TO_45 TF_45 TA_45) ip]) (pcs := [wd_Txp cs hx (TR_45 ip) (fun k => if k = 3 then (some hp2) else none) (TF_45 ip) (TA_45 ip) (fun _ _ => none)]) hw px_X.tt (C := "HomeSystem$TextProcess") (owner := "HomeSystem$AnyProcess") (x := ⟨"HomeSystem$AnyProcess", "answer", "(I)V"⟩) (px_recv hT hw 4 0 rfl rfl rfl) m8_75 m8_67 m8_69 m8_74 m8_73 m1_35 m8_68n ⟨by decide, by decide⟩ rfl q_Txp_answer ⟨Nat.le_of_ble_eq_true rfl, Nat.le_of_ble_eq_true rfl⟩ hl.1 rfl (Nat.le_of_ble_eq_true rfl) d_Ker_move_114 ⟨show ce_45 + 0 ≤ (5 * ndS 13 tq + 4 * ndS 13 rq + ndS 13 RM) from by first | with_reducible rfl | with_reducible assumption | omega, show sl_45 + 0 ≤ (9804 * ndS 13 tq + 342 * ndS 13 rq + 36864 * ndS 13 RM) from by first | with_reducible rfl | with_reducible assumption | omega⟩) hw hA (fun p9 H locs hp9 hw => ?_)
        obtain ⟨f7, a8, rfl, e11, e12, e13, e14, e15, e16⟩ := hp9
        replace e11 : TxOk (f7 4) (f7 5) (f7 8) (f7 9) (f7 17) (f7 21) (a8 2) := e11
        obtain ⟨lk, ⟨i2, i3⟩, ⟨i4, i5⟩, ⟨i6, i7⟩, i8, ⟨i9, i11⟩, i10, hrt⟩ := e11
        replace e12 : (f7 9).toInt = ((TF_45 ip) 9).toInt := e12
        replace e13 : (f7 17).toInt = ((TF_45 ip) 17).toInt := e13
        replace e14 : (f7 21).toInt = 0 := e14
        replace e15 : (f7 15).toInt = ((TF_45 ip) 15).toInt := e15
        replace e16 : (f7 20).toInt = ((TF_45 ip) 20).toInt := e16
        replace hw : pw D A s.heap H locs [wd_Ker cs hk kr (fun _ => none) kf ka_45 (gKe pq pz_45 tq_45 rq_45), fm 13 (fRw cs rq_45 RR_45 RM_45 RW_45 RF_45 RA_45 RC_45), fm 8 (fPp cs pq PV), fo 13 (fTx cs tq_45 TR_45 TO_45 TF_45 TA_45) ip, wd_Txp cs hx (TR_45 ip) (fun k => if k = 3 then (some hp2) else none) f7 a8 (fun _ _ => none)] := hw
        have hw := ftx_in0 (pr := [wd_Ker cs hk kr (fun _ => none) kf ka_45 (gKe pq pz_45 tq_45 rq_45), fm 13 (fRw cs rq_45 RR_45 RM_45 RW_45 RF_45 RA_45 RC_45), fm 8 (fPp cs pq PV)]) hw hip k45_3.1 hto2
        obtain ⟨TF17, hu_TF17⟩ : ∃ y : Nat → Nat → Int32, y = va_up TF_45 ip f7 := ⟨_, rfl⟩
        obtain ⟨TA18, hu_TA18⟩ : ∃ y : Nat → Nat → Nat → Int32, y = va_up TA_45 ip a8 := ⟨_, rfl⟩
        have hw : pw D A s.heap _ _ [wd_Ker cs hk kr (fun _ => none) kf ka_45 (gKe pq pz_45 tq_45 rq_45), fm 13 (fRw cs rq_45 RR_45 RM_45 RW_45 RF_45 RA_45 RC_45), fm 8 (fPp cs pq PV), fm 13 (fTx cs tq_45 TR_45 TO_45 TF17 TA18)] := (by rw [hu_TF17, hu_TA18]; exact hw)
        have hki : KnI pq PV pz_45 tq_45 rq_45 TO_45 TF17 TA18 RW_45 RF_45 := (by rw [hu_TF17, hu_TA18]; exact hki.upT (show TxN ip f7 a8 from ⟨(show TxOk (f7 4) (f7 5) (f7 8) (f7 9) (f7 17) (f7 21) (a8 2) from ⟨(by first | exact lk | exact lk_eq lk (by omega) | exact lk_mk (by omega)), ⟨by omega, by omega⟩, ⟨by omega, by omega⟩, ⟨by omega, by omega⟩, by omega, ⟨by omega, by omega⟩, by omega, hrt⟩), (show ((f7 15).toInt) = ((ip : Nat) : Int) from by first | with_reducible rfl | with_reducible assumption | omega), (show 0 ≤ (f7 20).toInt ∧ (f7 20).toInt ≤ 3 ∧ ((f7 20).toInt = 0 ∨ 3 * ((ip : Nat) : Int) + (f7 20).toInt ≤ 12) from by first | with_reducible rfl | with_reducible assumption | omega)⟩))
        have hz21_TF17 : (TF17 ip 21).toInt = (f7 21).toInt := (by rw [hu_TF17, va_up_s]; try rfl)
        have hw : pw D A s.heap _ _ [wd_Ker cs hk kr (fun _ => none) kf ka_45 (gKe pq pz_45 tq_45 rq_45), fm 13 (fTx cs tq_45 TR_45 TO_45 TF17 TA18), fm 13 (fRw cs rq_45 RR_45 RM_45 RW_45 RF_45 RA_45 RC_45), fm 8 (fPp cs pq PV)] := hw.sub [0, 3, 1, 2] rfl rfl
        exact pg_vret S hr hlk hAe hw (show ce_45 ≤ (5 * ndS 13 tq + 4 * ndS 13 rq + ndS 13 RM) from by first | exact oz_dca5c4e7e4 k45_9 | omega) (show sl_45 ≤ (9804 * ndS 13 tq + 342 * ndS 13 rq + 36864 * ndS 13 RM) from by first | exact oz_f7eb847e67 k45_10 | omega) (⟨pz_45, tq_45, rq_45, ka_45, TR_45, TO_45, TF17, TA18, RR_45, RM_45, RW_45, RF_45, RA_45, RC_45, rfl, (show CuT pq PV tq_45 TO_45 ip hx from k45_3), (show KnI pq PV pz_45 tq_45 rq_45 TO_45 TF17 TA18 RW_45 RF_45 from hki), (show RoI ka_45 from hro), (show RmI rq_45 RM_45 from hrm), (show ce_45 + (5 * ndS 13 tq_45 + 4 * ndS 13 rq_45 + ndS 13 RM_45) ≤ 5 * ndS 13 tq + 4 * ndS 13 rq + ndS 13 RM from by first | exact k45_9 | omega), (show sl_45 + (9804 * ndS 13 tq_45 + 342 * ndS 13 rq_45 + 36864 * ndS 13 RM_45) ≤ 9804 * ndS 13 tq + 342 * ndS 13 rq + 36864 * ndS 13 RM from by first | exact k45_10 | omega)⟩) d_Ker_move_117
      · have nc3 : ¬ x45_3.toInt ≤ x45_4.toInt := mt (i_le (x := x45_3) (y := x45_4)).mpr c3
        refine lv_iload S.x S.b d_Ker_move_51 (lv_at hl 4 rfl) ?_
        refine lv_bipush (v := 16) S.x S.b d_Ker_move_53 (by decide) ?_
        refine lv_icmp_ge (tgt := 112) S.x S.b d_Ker_move_55 (by decide) (fun c19 => ?_) (fun c19 => ?_)
        · have nc19 : (16 : Int) ≤ x45_4.toInt := (i_le (x := 16) (y := x45_4)).mp c19
          refine lv_aload_n S.x S.b d_Ker_move_112 rfl (lv_at hl 1 rfl) ?_
          refine lv_iconst (v := 0) S.x S.b d_Ker_move_113 (by decide) ?_
          have hw : pw D A s.heap _ _ [wd_Ker cs hk kr (fun _ => none) kf ka_45 (gKe pq pz_45 tq_45 rq_45), fm 13 (fRw cs rq_45 RR_45 RM_45 RW_45 RF_45 RA_45 RC_45), fm 8 (fPp cs pq PV), fm 13 (fTx cs tq_45 TR_45 TO_45 TF_45 TA_45)] := hw.sub [0, 2, 3, 1] rfl rfl
          have hw : pw D A s.heap _ _ [wd_Ker cs hk kr (fun _ => none) kf ka_45 (gKe pq pz_45 tq_45 rq_45), fm 13 (fRw cs rq_45 RR_45 RM_45 RW_45 RF_45 RA_45 RC_45), fm 8 (fPp cs pq PV), fo 13 (fTx cs tq_45 TR_45 TO_45 TF_45 TA_45) ip, wd_Txp cs hx (TR_45 ip) (fun k => if k = 3 then (some hp2) else none) (TF_45 ip) (TA_45 ip) (fun _ _ => none)] := ftx_out (pr := [wd_Ker cs hk kr (fun _ => none) kf ka_45 (gKe pq pz_45 tq_45 rq_45), fm 13 (fRw cs rq_45 RR_45 RM_45 RW_45 RF_45 RA_45 RC_45), fm 8 (fPp cs pq PV)]) hw hip k45_3.1 hto2
          have htn20 : TxN ip (TF_45 ip) (TA_45 ip) := hki.2.1 ip hip _ k45_3.1
          obtain ⟨lk, ⟨i2, i3⟩, ⟨i4, i5⟩, ⟨i6, i7⟩, i8, ⟨i9, i11⟩, i10, hrt⟩ := htn20.1
          have hid20 := htn20.2.1
          have hch20 := htn20.2.2
          unfold KcI at hch20
          refine px_callv (pr := [wd_Ker cs hk kr (fun _ => none) kf ka_45 (gKe pq pz_45 tq_45 rq_45), fm 13 (fRw cs rq_45 RR_45 RM_45 RW_45 RF_45 RA_45 RC_45), fm 8 (fPp cs pq PV), fo 13 (fTx cs tq_45 TR_45 TO_45 TF_45 TA_45) ip]) (px_runA (As := [.int 0]) (rest := []) S (c_Txp_answer l D cs hx (TR_45 ip) (fun _ _ => none) hp2 (TF_45 ip) (TA_45 ip) 0  (show TxOk ((TF_45 ip) 4) ((TF_45 ip) 5) ((TF_45 ip) 8) ((TF_45 ip) 9) ((TF_45 ip) 17) 0 ((TA_45 ip) 2) from ⟨(by first | exact lk | exact lk_eq lk (by omega) | exact lk_mk (by omega)), ⟨by omega, by omega⟩, ⟨by omega, by omega⟩, ⟨by omega, by omega⟩, by omega, ⟨by decide, by decide⟩, (by show _ + _ + (0 : Int) ≤ 100; omega), hrt⟩) _) hT (pr := [wd_Ker cs hk kr (fun _ => none) kf ka_45 (gKe pq pz_45 tq_45 rq_45), fm 13 (fRw cs rq_45 RR_45 RM_45 RW_45 RF_45 RA_45 RC_45), fm 8 (fPp cs pq PV), fo 13 (fTx cs tq_45 TR_45 TO_45 TF_45 TA_45) ip]) (pcs := [wd_Txp cs hx (TR_45 ip) (fun k => if k = 3 then (some hp2) else none) (TF_45 ip) (TA_45 ip) (fun _ _ => none)]) hw px_X.tt (C := "HomeSystem$TextProcess") (owner := "HomeSystem$AnyProcess") (x := ⟨"HomeSystem$AnyProcess", "answer", "(I)V"⟩) (px_recv hT hw 4 0 rfl rfl rfl) m8_75 m8_67 m8_69 m8_74 m8_73 m1_35 m8_68n ⟨by decide, by decide⟩ rfl q_Txp_answer ⟨Nat.le_of_ble_eq_true rfl, Nat.le_of_ble_eq_true rfl⟩ hl.1 rfl (Nat.le_of_ble_eq_true rfl) d_Ker_move_114 ⟨show ce_45 + 0 ≤ (5 * ndS 13 tq + 4 * ndS 13 rq + ndS 13 RM) from by first | with_reducible rfl | with_reducible assumption | omega, show sl_45 + 0 ≤ (9804 * ndS 13 tq + 342 * ndS 13 rq + 36864 * ndS 13 RM) from by first | with_reducible rfl | with_reducible assumption | omega⟩) hw hA (fun p25 H locs hp25 hw => ?_)
          obtain ⟨f23, a24, rfl, e27, e28, e29, e30, e31, e32⟩ := hp25
          replace e27 : TxOk (f23 4) (f23 5) (f23 8) (f23 9) (f23 17) (f23 21) (a24 2) := e27
          obtain ⟨lk, ⟨i2, i3⟩, ⟨i4, i5⟩, ⟨i6, i7⟩, i8, ⟨i9, i11⟩, i10, hrt⟩ := e27
          replace e28 : (f23 9).toInt = ((TF_45 ip) 9).toInt := e28
          replace e29 : (f23 17).toInt = ((TF_45 ip) 17).toInt := e29
          replace e30 : (f23 21).toInt = 0 := e30
          replace e31 : (f23 15).toInt = ((TF_45 ip) 15).toInt := e31
          replace e32 : (f23 20).toInt = ((TF_45 ip) 20).toInt := e32
          replace hw : pw D A s.heap H locs [wd_Ker cs hk kr (fun _ => none) kf ka_45 (gKe pq pz_45 tq_45 rq_45), fm 13 (fRw cs rq_45 RR_45 RM_45 RW_45 RF_45 RA_45 RC_45), fm 8 (fPp cs pq PV), fo 13 (fTx cs tq_45 TR_45 TO_45 TF_45 TA_45) ip, wd_Txp cs hx (TR_45 ip) (fun k => if k = 3 then (some hp2) else none) f23 a24 (fun _ _ => none)] := hw
          have hw := ftx_in0 (pr := [wd_Ker cs hk kr (fun _ => none) kf ka_45 (gKe pq pz_45 tq_45 rq_45), fm 13 (fRw cs rq_45 RR_45 RM_45 RW_45 RF_45 RA_45 RC_45), fm 8 (fPp cs pq PV)]) hw hip k45_3.1 hto2
          obtain ⟨TF33, hu_TF33⟩ : ∃ y : Nat → Nat → Int32, y = va_up TF_45 ip f23 := ⟨_, rfl⟩
          obtain ⟨TA34, hu_TA34⟩ : ∃ y : Nat → Nat → Nat → Int32, y = va_up TA_45 ip a24 := ⟨_, rfl⟩
          have hw : pw D A s.heap _ _ [wd_Ker cs hk kr (fun _ => none) kf ka_45 (gKe pq pz_45 tq_45 rq_45), fm 13 (fRw cs rq_45 RR_45 RM_45 RW_45 RF_45 RA_45 RC_45), fm 8 (fPp cs pq PV), fm 13 (fTx cs tq_45 TR_45 TO_45 TF33 TA34)] := (by rw [hu_TF33, hu_TA34]; exact hw)
          have hki : KnI pq PV pz_45 tq_45 rq_45 TO_45 TF33 TA34 RW_45 RF_45 := (by rw [hu_TF33, hu_TA34]; exact hki.upT (show TxN ip f23 a24 from ⟨(show TxOk (f23 4) (f23 5) (f23 8) (f23 9) (f23 17) (f23 21) (a24 2) from ⟨(by first | exact lk | exact lk_eq lk (by omega) | exact lk_mk (by omega)), ⟨by omega, by omega⟩, ⟨by omega, by omega⟩, ⟨by omega, by omega⟩, by omega, ⟨by omega, by omega⟩, by omega, hrt⟩), (show ((f23 15).toInt) = ((ip : Nat) : Int) from by first | with_reducible rfl | with_reducible assumption | omega), (show 0 ≤ (f23 20).toInt ∧ (f23 20).toInt ≤ 3 ∧ ((f23 20).toInt = 0 ∨ 3 * ((ip : Nat) : Int) + (f23 20).toInt ≤ 12) from by first | with_reducible rfl | with_reducible assumption | omega)⟩))
          have hz21_TF33 : (TF33 ip 21).toInt = (f23 21).toInt := (by rw [hu_TF33, va_up_s]; try rfl)
          have hw : pw D A s.heap _ _ [wd_Ker cs hk kr (fun _ => none) kf ka_45 (gKe pq pz_45 tq_45 rq_45), fm 13 (fTx cs tq_45 TR_45 TO_45 TF33 TA34), fm 13 (fRw cs rq_45 RR_45 RM_45 RW_45 RF_45 RA_45 RC_45), fm 8 (fPp cs pq PV)] := hw.sub [0, 3, 1, 2] rfl rfl
          exact pg_vret S hr hlk hAe hw (show ce_45 ≤ (5 * ndS 13 tq + 4 * ndS 13 rq + ndS 13 RM) from by first | exact oz_dca5c4e7e4 k45_9 | omega) (show sl_45 ≤ (9804 * ndS 13 tq + 342 * ndS 13 rq + 36864 * ndS 13 RM) from by first | exact oz_f7eb847e67 k45_10 | omega) (⟨pz_45, tq_45, rq_45, ka_45, TR_45, TO_45, TF33, TA34, RR_45, RM_45, RW_45, RF_45, RA_45, RC_45, rfl, (show CuT pq PV tq_45 TO_45 ip hx from k45_3), (show KnI pq PV pz_45 tq_45 rq_45 TO_45 TF33 TA34 RW_45 RF_45 from hki), (show RoI ka_45 from hro), (show RmI rq_45 RM_45 from hrm), (show ce_45 + (5 * ndS 13 tq_45 + 4 * ndS 13 rq_45 + ndS 13 RM_45) ≤ 5 * ndS 13 tq + 4 * ndS 13 rq + ndS 13 RM from by first | exact k45_9 | omega), (show sl_45 + (9804 * ndS 13 tq_45 + 342 * ndS 13 rq_45 + 36864 * ndS 13 RM_45) ≤ 9804 * ndS 13 tq + 342 * ndS 13 rq + 36864 * ndS 13 RM from by first | exact k45_10 | omega)⟩) d_Ker_move_117
        · have nc19 : ¬ (16 : Int) ≤ x45_4.toInt := mt (i_le (x := 16) (y := x45_4)).mpr c19
          refine lv_aload_n S.x S.b d_Ker_move_58 rfl (lv_at hl 1 rfl) ?_
          have hw : pw D A s.heap _ _ [wd_Ker cs hk kr (fun _ => none) kf ka_45 (gKe pq pz_45 tq_45 rq_45), fm 13 (fRw cs rq_45 RR_45 RM_45 RW_45 RF_45 RA_45 RC_45), fm 8 (fPp cs pq PV), fm 13 (fTx cs tq_45 TR_45 TO_45 TF_45 TA_45)] := hw.sub [0, 2, 3, 1] rfl rfl
          have hw : pw D A s.heap _ _ [wd_Ker cs hk kr (fun _ => none) kf ka_45 (gKe pq pz_45 tq_45 rq_45), fm 13 (fRw cs rq_45 RR_45 RM_45 RW_45 RF_45 RA_45 RC_45), fm 8 (fPp cs pq PV), fo 13 (fTx cs tq_45 TR_45 TO_45 TF_45 TA_45) ip, wd_Txp cs hx (TR_45 ip) (fun k => if k = 3 then (some hp2) else none) (TF_45 ip) (TA_45 ip) (fun _ _ => none)] := ftx_out (pr := [wd_Ker cs hk kr (fun _ => none) kf ka_45 (gKe pq pz_45 tq_45 rq_45), fm 13 (fRw cs rq_45 RR_45 RM_45 RW_45 RF_45 RA_45 RC_45), fm 8 (fPp cs pq PV)]) hw hip k45_3.1 hto2
          have htn35 : TxN ip (TF_45 ip) (TA_45 ip) := hki.2.1 ip hip _ k45_3.1
          obtain ⟨lk, ⟨i2, i3⟩, ⟨i4, i5⟩, ⟨i6, i7⟩, i8, ⟨i9, i11⟩, i10, hrt⟩ := htn35.1
          have hid35 := htn35.2.1
          have hch35 := htn35.2.2
          unfold KcI at hch35
          refine px_get S k_Txp hT hw 4 0 22 (v := .int ((TF_45 ip) 22)) rfl rfl rfl (by decide) m6_158 d_Ker_move_59 ?_
          refine lv_bipush (v := 7) S.x S.b d_Ker_move_62 (by decide) ?_
          refine lv_icmp_ne (tgt := 88) S.x S.b d_Ker_move_64 (by decide) (fun c36 => ?_) (fun c36 => ?_)
          · have nc36 : ¬ ((TF_45 ip) 22).toInt = (7 : Int) := mt (i_eq (x := ((TF_45 ip) 22)) (y := 7)).mpr c36
            refine lv_aload_n S.x S.b d_Ker_move_88 rfl (lv_at hl 0 rfl) ?_
            refine px_get S k_Ker hT hw 0 0 1 (v := .ref (kr 1)) rfl rfl rfl (by decide) m2_220 d_Ker_move_89 ?_
            refine lv_bipush (v := 16) S.x S.b d_Ker_move_92 (by decide) ?_
            refine lv_iload_n S.x S.b d_Ker_move_94 rfl (lv_at hl 2 rfl) ?_
            refine lv_imul S.x S.b d_Ker_move_95 ?_
            refine lv_topi (fun z37 ez37 => ?_)
            have lz37 := Int32.le_toInt z37
            have uz37 := Int32.toInt_lt z37
            have tz37 : -2147483648 ≤ 16 * p0.toInt → 16 * p0.toInt < 2147483648 → z37.toInt = 16 * p0.toInt := by rw [ez37]; exact i_mulc 16 p0 (by decide)
            try replace tz37 : z37.toInt = 16 * p0.toInt := by omega
            refine lv_iload S.x S.b d_Ker_move_96 (lv_at hl 4 rfl) ?_
            refine lv_iadd S.x S.b d_Ker_move_98 ?_
            refine lv_topi (fun z38 ez38 => ?_)
            have tz38 : z38.toInt = (z37.toInt + x45_4.toInt + 2147483648) % 4294967296 - 2147483648 := by rw [ez38]; exact i_add z37 x45_4
            have lz38 := Int32.le_toInt z38
            have uz38 := Int32.toInt_lt z38
            try replace tz38 : z38.toInt = z37.toInt + x45_4.toInt := by omega
            refine lv_aload_n S.x S.b d_Ker_move_99 rfl (lv_at hl 1 rfl) ?_
            refine lv_iload S.x S.b d_Ker_move_100 (lv_at hl 4 rfl) ?_
            refine px_calli (pr := [wd_Ker cs hk kr (fun _ => none) kf ka_45 (gKe pq pz_45 tq_45 rq_45), fm 13 (fRw cs rq_45 RR_45 RM_45 RW_45 RF_45 RA_45 RC_45), fm 8 (fPp cs pq PV), fo 13 (fTx cs tq_45 TR_45 TO_45 TF_45 TA_45) ip]) (px_runA (As := [.int x45_4]) (rest := [.int z38, .ref (kr 1)]) S (c_Txp_wordToMove l D cs hx (TR_45 ip) (fun _ _ => none) hp2 (TF_45 ip) (TA_45 ip) x45_4  (show TxOk ((TF_45 ip) 4) ((TF_45 ip) 5) ((TF_45 ip) 8) ((TF_45 ip) 9) ((TF_45 ip) 17) ((TF_45 ip) 21) ((TA_45 ip) 2) from ⟨(by first | exact lk | exact lk_eq lk (by omega) | exact lk_mk (by omega)), ⟨by omega, by omega⟩, ⟨by omega, by omega⟩, ⟨by omega, by omega⟩, by omega, ⟨by omega, by omega⟩, by omega, hrt⟩) _) hT (pr := [wd_Ker cs hk kr (fun _ => none) kf ka_45 (gKe pq pz_45 tq_45 rq_45), fm 13 (fRw cs rq_45 RR_45 RM_45 RW_45 RF_45 RA_45 RC_45), fm 8 (fPp cs pq PV), fo 13 (fTx cs tq_45 TR_45 TO_45 TF_45 TA_45) ip]) (pcs := [wd_Txp cs hx (TR_45 ip) (fun k => if k = 3 then (some hp2) else none) (TF_45 ip) (TA_45 ip) (fun _ _ => none)]) hw px_X.tt (C := "HomeSystem$TextProcess") (owner := "HomeSystem$AnyProcess") (x := ⟨"HomeSystem$AnyProcess", "wordToMove", "(I)I"⟩) (px_recv hT hw 4 0 rfl rfl rfl) m8_142 m8_130 m8_132 m8_141 m8_140 m1_35 m8_131n ⟨by decide, by decide⟩ rfl q_Txp_wordToMove ⟨Nat.le_of_ble_eq_true rfl, Nat.le_of_ble_eq_true rfl⟩ hl.1 rfl (Nat.le_of_ble_eq_true rfl) d_Ker_move_102 ⟨show ce_45 + 0 ≤ (5 * ndS 13 tq + 4 * ndS 13 rq + ndS 13 RM) from by first | with_reducible rfl | with_reducible assumption | omega, show sl_45 + 0 ≤ (9804 * ndS 13 tq + 342 * ndS 13 rq + 36864 * ndS 13 RM) from by first | with_reducible rfl | with_reducible assumption | omega⟩) hw hA (fun v40 p39 H locs hp39 hw => ?_)
            subst hp39
            replace hw : pw D A s.heap H locs [wd_Ker cs hk kr (fun _ => none) kf ka_45 (gKe pq pz_45 tq_45 rq_45), fm 13 (fRw cs rq_45 RR_45 RM_45 RW_45 RF_45 RA_45 RC_45), fm 8 (fPp cs pq PV), fo 13 (fTx cs tq_45 TR_45 TO_45 TF_45 TA_45) ip, wd_Txp cs hx (TR_45 ip) (fun k => if k = 3 then (some hp2) else none) (TF_45 ip) (TA_45 ip) (fun _ _ => none)] := hw
            have lv40 := Int32.le_toInt v40
            have uv40 := Int32.toInt_lt v40
            refine px_iast S hT hw 0 2 (n := 128) (f := (ka_45 1)) (x := z38) (y := v40) rfl (ga_Ker_1 _ _ _ _ _ _ _) (vp_in_iff.mpr (by constructor <;> omega)) d_Ker_move_105 (w' := wd_Ker cs hk kr (fun _ => none) kf (va_up ka_45 1 (upd (ka_45 1) z38.toNatClampNeg v40)) (gKe pq pz_45 tq_45 rq_45)) (ps' := [wd_Ker cs hk kr (fun _ => none) kf (va_up ka_45 1 (upd (ka_45 1) z38.toNatClampNeg v40)) (gKe pq pz_45 tq_45 rq_45), fm 13 (fRw cs rq_45 RR_45 RM_45 RW_45 RF_45 RA_45 RC_45), fm 8 (fPp cs pq PV), fo 13 (fTx cs tq_45 TR_45 TO_45 TF_45 TA_45) ip, wd_Txp cs hx (TR_45 ip) (fun k => if k = 3 then (some hp2) else none) (TF_45 ip) (TA_45 ip) (fun _ _ => none)]) (sa_Ker_1 _ _ _ _ _ _ _ _) rfl (fun H locs hw => ?_)
            have hro : RoI (va_up ka_45 1 (upd (ka_45 1) z38.toNatClampNeg v40)) := hro.oth (by decide) (by decide)
            obtain ⟨z41, ez41⟩ : ∃ y : Int32, y = x45_4 + 1 := ⟨_, rfl⟩
            have tz41 : z41.toInt = (x45_4.toInt + 1 + 2147483648) % 4294967296 - 2147483648 := by rw [ez41]; exact i_add x45_4 1
            have lz41 := Int32.le_toInt z41
            have uz41 := Int32.toInt_lt z41
            try replace tz41 : z41.toInt = x45_4.toInt + 1 := by omega
            refine lv_iinc (v := z41) (lv' := [(4, .int z41), (0, .ref hk), (1, .ref hx), (2, .int p0), (3, .int x45_3)]) S.x S.b d_Ker_move_106 hl (k := 4) rfl (by rw [ez41]; rfl) (by decide) rfl (fun ls hl => ?_)
            refine lv_goto (tgt := 45) S.x S.b d_Ker_move_109 (by decide) ?_
            have hw : pw D A s.heap _ _ [wd_Ker cs hk kr (fun _ => none) kf (va_up ka_45 1 (upd (ka_45 1) z38.toNatClampNeg v40)) (gKe pq pz_45 tq_45 rq_45), fm 13 (fRw cs rq_45 RR_45 RM_45 RW_45 RF_45 RA_45 RC_45), fm 8 (fPp cs pq PV), fm 13 (fTx cs tq_45 TR_45 TO_45 TF_45 TA_45)] := ftx_back (pr := [wd_Ker cs hk kr (fun _ => none) kf (va_up ka_45 1 (upd (ka_45 1) z38.toNatClampNeg v40)) (gKe pq pz_45 tq_45 rq_45), fm 13 (fRw cs rq_45 RR_45 RM_45 RW_45 RF_45 RA_45 RC_45), fm 8 (fPp cs pq PV)]) hw hip k45_3.1 hto2
            have hw : pw D A s.heap _ _ [wd_Ker cs hk kr (fun _ => none) kf (va_up ka_45 1 (upd (ka_45 1) z38.toNatClampNeg v40)) (gKe pq pz_45 tq_45 rq_45), fm 13 (fTx cs tq_45 TR_45 TO_45 TF_45 TA_45), fm 13 (fRw cs rq_45 RR_45 RM_45 RW_45 RF_45 RA_45 RC_45), fm 8 (fPp cs pq PV)] := hw.sub [0, 3, 1, 2] rfl rfl
            exact ih45 ce_45 sl_45 pz_45 tq_45 rq_45 (va_up ka_45 1 (upd (ka_45 1) z38.toNatClampNeg v40)) TR_45 TO_45 TF_45 TA_45 RR_45 RM_45 RW_45 RF_45 RA_45 RC_45 x45_3 z41 _ _ ls (show KnI pq PV pz_45 tq_45 rq_45 TO_45 TF_45 TA_45 RW_45 RF_45 from hki) (show RoI (va_up ka_45 1 (upd (ka_45 1) z38.toNatClampNeg v40)) from hro) (show RmI rq_45 RM_45 from hrm) (show CuT pq PV tq_45 TO_45 ip hx from k45_3) (show 0 ≤ z41.toInt from by first | exact oz_ae613611c0 tz41 k45_4 | omega) (show z41.toInt ≤ 16 from by first | exact oz_46c819e4be tz41 nc19 | omega) (show x45_3.toInt ≤ 16 from by first | exact k45_6 | omega) (show 0 ≤ p0.toInt from by first | exact k45_7 | omega) (show p0.toInt ≤ 7 from by first | exact k45_8 | omega) (show ce_45 + (5 * ndS 13 tq_45 + 4 * ndS 13 rq_45 + ndS 13 RM_45) ≤ 5 * ndS 13 tq + 4 * ndS 13 rq + ndS 13 RM from by first | exact k45_9 | omega) (show sl_45 + (9804 * ndS 13 tq_45 + 342 * ndS 13 rq_45 + 36864 * ndS 13 RM_45) ≤ 9804 * ndS 13 tq + 342 * ndS 13 rq + 36864 * ndS 13 RM from by first | exact k45_10 | omega) (show x45_3.toInt - z41.toInt + 4294967297 < (n_45 : Int) from by first | with_reducible rfl | with_reducible assumption | omega) hw (lv_sub hl [1, 2, 3, 4, 0] rfl)
          · have nc36 : ((TF_45 ip) 22).toInt = (7 : Int) := (i_eq (x := ((TF_45 ip) 22)) (y := 7)).mp c36
            refine lv_aload_n S.x S.b d_Ker_move_67 rfl (lv_at hl 1 rfl) ?_
            refine lv_iload S.x S.b d_Ker_move_68 (lv_at hl 4 rfl) ?_
            refine lv_aload_n S.x S.b d_Ker_move_70 rfl (lv_at hl 0 rfl) ?_
            refine px_get S k_Ker hT hw 0 0 1 (v := .ref (kr 1)) rfl rfl rfl (by decide) m2_220 d_Ker_move_71 ?_
            refine lv_bipush (v := 16) S.x S.b d_Ker_move_74 (by decide) ?_
            refine lv_iload_n S.x S.b d_Ker_move_76 rfl (lv_at hl 2 rfl) ?_
            refine lv_imul S.x S.b d_Ker_move_77 ?_
            refine lv_topi (fun z42 ez42 => ?_)
            have lz42 := Int32.le_toInt z42
            have uz42 := Int32.toInt_lt z42
            have tz42 : -2147483648 ≤ 16 * p0.toInt → 16 * p0.toInt < 2147483648 → z42.toInt = 16 * p0.toInt := by rw [ez42]; exact i_mulc 16 p0 (by decide)
            try replace tz42 : z42.toInt = 16 * p0.toInt := by omega
            refine lv_iload S.x S.b d_Ker_move_78 (lv_at hl 4 rfl) ?_
            refine lv_iadd S.x S.b d_Ker_move_80 ?_
            refine lv_topi (fun z43 ez43 => ?_)
            have tz43 : z43.toInt = (z42.toInt + x45_4.toInt + 2147483648) % 4294967296 - 2147483648 := by rw [ez43]; exact i_add z42 x45_4
            have lz43 := Int32.le_toInt z43
            have uz43 := Int32.toInt_lt z43
            try replace tz43 : z43.toInt = z42.toInt + x45_4.toInt := by omega
            refine px_iald S hT hw 0 2 (n := 128) (f := (ka_45 1)) rfl (ga_Ker_1 _ _ _ _ _ _ _) (x := z43) (vp_in_iff.mpr (by first | exact oz_903bb5f34d tz43 k45_4 tz42 k45_7 nc19 k45_8 | (constructor <;> omega))) d_Ker_move_81 ?_
            refine lv_topi (fun z44 ez44 => ?_)
            have lz44 := Int32.le_toInt z44
            have uz44 := Int32.toInt_lt z44
            refine px_callv (pr := [wd_Ker cs hk kr (fun _ => none) kf ka_45 (gKe pq pz_45 tq_45 rq_45), fm 13 (fRw cs rq_45 RR_45 RM_45 RW_45 RF_45 RA_45 RC_45), fm 8 (fPp cs pq PV), fo 13 (fTx cs tq_45 TR_45 TO_45 TF_45 TA_45) ip]) (px_runA (As := [.int x45_4, .int z44]) (rest := []) S (c_Txp_moveWord l D cs hx (TR_45 ip) (fun _ _ => none) hp2 (TF_45 ip) (TA_45 ip) x45_4 z44  (show TxOk ((TF_45 ip) 4) ((TF_45 ip) 5) ((TF_45 ip) 8) ((TF_45 ip) 9) ((TF_45 ip) 17) ((TF_45 ip) 21) ((TA_45 ip) 2) from ⟨(by first | exact lk | exact lk_eq lk (by omega) | exact lk_mk (by omega)), ⟨by omega, by omega⟩, ⟨by omega, by omega⟩, ⟨by omega, by omega⟩, by omega, ⟨by omega, by omega⟩, by omega, hrt⟩) _) hT (pr := [wd_Ker cs hk kr (fun _ => none) kf ka_45 (gKe pq pz_45 tq_45 rq_45), fm 13 (fRw cs rq_45 RR_45 RM_45 RW_45 RF_45 RA_45 RC_45), fm 8 (fPp cs pq PV), fo 13 (fTx cs tq_45 TR_45 TO_45 TF_45 TA_45) ip]) (pcs := [wd_Txp cs hx (TR_45 ip) (fun k => if k = 3 then (some hp2) else none) (TF_45 ip) (TA_45 ip) (fun _ _ => none)]) hw px_X.tt (C := "HomeSystem$TextProcess") (owner := "HomeSystem$AnyProcess") (x := ⟨"HomeSystem$AnyProcess", "moveWord", "(II)V"⟩) (px_recv hT hw 4 0 rfl rfl rfl) m8_125 m8_111 m8_113 m8_124 m8_123 m1_35 m8_112n ⟨by decide, by decide⟩ rfl q_Txp_moveWord ⟨Nat.le_of_ble_eq_true rfl, Nat.le_of_ble_eq_true rfl⟩ hl.1 rfl (Nat.le_of_ble_eq_true rfl) d_Ker_move_82 ⟨show ce_45 + 0 ≤ (5 * ndS 13 tq + 4 * ndS 13 rq + ndS 13 RM) from by first | with_reducible rfl | with_reducible assumption | omega, show sl_45 + 0 ≤ (9804 * ndS 13 tq + 342 * ndS 13 rq + 36864 * ndS 13 RM) from by first | with_reducible rfl | with_reducible assumption | omega⟩) hw hA (fun p47 H locs hp47 hw => ?_)
            obtain ⟨f45, a46, rfl, h55, e49, e50, e51, e52, e53, e54⟩ := hp47
            obtain ⟨lk, ⟨i2, i3⟩, ⟨i4, i5⟩, ⟨i6, i7⟩, i8, ⟨i9, i11⟩, i10, hrt⟩ := h55
            replace e49 : (f45 9).toInt = ((TF_45 ip) 9).toInt := e49
            replace e50 : (f45 17).toInt = ((TF_45 ip) 17).toInt := e50
            replace e51 : (f45 21).toInt = ((TF_45 ip) 21).toInt := e51
            replace e52 : (f45 15).toInt = ((TF_45 ip) 15).toInt := e52
            replace e53 : (f45 20).toInt = ((TF_45 ip) 20).toInt := e53
            replace e54 : (f45 4).toInt = ((TF_45 ip) 4).toInt := e54
            replace hw : pw D A s.heap H locs [wd_Ker cs hk kr (fun _ => none) kf ka_45 (gKe pq pz_45 tq_45 rq_45), fm 13 (fRw cs rq_45 RR_45 RM_45 RW_45 RF_45 RA_45 RC_45), fm 8 (fPp cs pq PV), fo 13 (fTx cs tq_45 TR_45 TO_45 TF_45 TA_45) ip, wd_Txp cs hx (TR_45 ip) (fun k => if k = 3 then (some hp2) else none) f45 a46 (fun _ _ => none)] := hw
            refine lv_goto (tgt := 106) S.x S.b d_Ker_move_85 (by decide) ?_
            obtain ⟨z56, ez56⟩ : ∃ y : Int32, y = x45_4 + 1 := ⟨_, rfl⟩
            have tz56 : z56.toInt = (x45_4.toInt + 1 + 2147483648) % 4294967296 - 2147483648 := by rw [ez56]; exact i_add x45_4 1
            have lz56 := Int32.le_toInt z56
            have uz56 := Int32.toInt_lt z56
            try replace tz56 : z56.toInt = x45_4.toInt + 1 := by omega
            refine lv_iinc (v := z56) (lv' := [(4, .int z56), (0, .ref hk), (1, .ref hx), (2, .int p0), (3, .int x45_3)]) S.x S.b d_Ker_move_106 hl (k := 4) rfl (by rw [ez56]; rfl) (by decide) rfl (fun ls hl => ?_)
            refine lv_goto (tgt := 45) S.x S.b d_Ker_move_109 (by decide) ?_
            have hw := ftx_in0 (pr := [wd_Ker cs hk kr (fun _ => none) kf ka_45 (gKe pq pz_45 tq_45 rq_45), fm 13 (fRw cs rq_45 RR_45 RM_45 RW_45 RF_45 RA_45 RC_45), fm 8 (fPp cs pq PV)]) hw hip k45_3.1 hto2
            obtain ⟨TF57, hu_TF57⟩ : ∃ y : Nat → Nat → Int32, y = va_up TF_45 ip f45 := ⟨_, rfl⟩
            obtain ⟨TA58, hu_TA58⟩ : ∃ y : Nat → Nat → Nat → Int32, y = va_up TA_45 ip a46 := ⟨_, rfl⟩
            have hw : pw D A s.heap _ _ [wd_Ker cs hk kr (fun _ => none) kf ka_45 (gKe pq pz_45 tq_45 rq_45), fm 13 (fRw cs rq_45 RR_45 RM_45 RW_45 RF_45 RA_45 RC_45), fm 8 (fPp cs pq PV), fm 13 (fTx cs tq_45 TR_45 TO_45 TF57 TA58)] := (by rw [hu_TF57, hu_TA58]; exact hw)
            have hki : KnI pq PV pz_45 tq_45 rq_45 TO_45 TF57 TA58 RW_45 RF_45 := (by rw [hu_TF57, hu_TA58]; exact hki.upT (show TxN ip f45 a46 from ⟨(show TxOk (f45 4) (f45 5) (f45 8) (f45 9) (f45 17) (f45 21) (a46 2) from ⟨(by first | exact lk | exact lk_eq lk (by omega) | exact lk_mk (by omega)), ⟨by omega, by omega⟩, ⟨by omega, by omega⟩, ⟨by omega, by omega⟩, by omega, ⟨by omega, by omega⟩, by omega, hrt⟩), (show ((f45 15).toInt) = ((ip : Nat) : Int) from by first | with_reducible rfl | with_reducible assumption | omega), (show 0 ≤ (f45 20).toInt ∧ (f45 20).toInt ≤ 3 ∧ ((f45 20).toInt = 0 ∨ 3 * ((ip : Nat) : Int) + (f45 20).toInt ≤ 12) from by first | with_reducible rfl | with_reducible assumption | omega)⟩))
            have hz21_TF57 : (TF57 ip 21).toInt = (f45 21).toInt := (by rw [hu_TF57, va_up_s]; try rfl)
            have hw : pw D A s.heap _ _ [wd_Ker cs hk kr (fun _ => none) kf ka_45 (gKe pq pz_45 tq_45 rq_45), fm 13 (fTx cs tq_45 TR_45 TO_45 TF57 TA58), fm 13 (fRw cs rq_45 RR_45 RM_45 RW_45 RF_45 RA_45 RC_45), fm 8 (fPp cs pq PV)] := hw.sub [0, 3, 1, 2] rfl rfl
            exact ih45 ce_45 sl_45 pz_45 tq_45 rq_45 ka_45 TR_45 TO_45 TF57 TA58 RR_45 RM_45 RW_45 RF_45 RA_45 RC_45 x45_3 z56 _ _ ls (show KnI pq PV pz_45 tq_45 rq_45 TO_45 TF57 TA58 RW_45 RF_45 from hki) (show RoI ka_45 from hro) (show RmI rq_45 RM_45 from hrm) (show CuT pq PV tq_45 TO_45 ip hx from k45_3) (show 0 ≤ z56.toInt from by first | exact oz_ae613611c0 tz56 k45_4 | omega) (show z56.toInt ≤ 16 from by first | exact oz_46c819e4be tz56 nc19 | omega) (show x45_3.toInt ≤ 16 from by first | exact k45_6 | omega) (show 0 ≤ p0.toInt from by first | exact k45_7 | omega) (show p0.toInt ≤ 7 from by first | exact k45_8 | omega) (show ce_45 + (5 * ndS 13 tq_45 + 4 * ndS 13 rq_45 + ndS 13 RM_45) ≤ 5 * ndS 13 tq + 4 * ndS 13 rq + ndS 13 RM from by first | exact k45_9 | omega) (show sl_45 + (9804 * ndS 13 tq_45 + 342 * ndS 13 rq_45 + 36864 * ndS 13 RM_45) ≤ 9804 * ndS 13 tq + 342 * ndS 13 rq + 36864 * ndS 13 RM from by first | exact k45_10 | omega) (show x45_3.toInt - z56.toInt + 4294967297 < (n_45 : Int) from by first | with_reducible rfl | with_reducible assumption | omega) hw (lv_sub hl [1, 2, 3, 4, 0] rfl)
  refine lv_aload_n S.x S.b d_Ker_move_0 rfl (lv_at hl 1 rfl) ?_
  obtain ⟨j59, hp59, hj59, hjq59, hto59, hf059⟩ := hcu.2
  have hw : pw D A s.heap _ _ [wd_Ker cs hk kr (fun _ => none) kf ka (gKe pq pz tq rq), fm 13 (fRw cs rq RR RM RW RF RA RC), fm 8 (fPp cs pq PV), fm 13 (fTx cs tq TR TO TF TA)] := hw.sub [0, 2, 3, 1] rfl rfl
  have hw : pw D A s.heap _ _ [wd_Ker cs hk kr (fun _ => none) kf ka (gKe pq pz tq rq), fm 13 (fRw cs rq RR RM RW RF RA RC), fm 8 (fPp cs pq PV), fo 13 (fTx cs tq TR TO TF TA) ip, wd_Txp cs hx (TR ip) (fun k => if k = 3 then (some hp59) else none) (TF ip) (TA ip) (fun _ _ => none)] := ftx_out (pr := [wd_Ker cs hk kr (fun _ => none) kf ka (gKe pq pz tq rq), fm 13 (fRw cs rq RR RM RW RF RA RC), fm 8 (fPp cs pq PV)]) hw hip hcu.1 hto59
  have htn60 : TxN ip (TF ip) (TA ip) := hki.2.1 ip hip _ hcu.1
  obtain ⟨lk, ⟨i2, i3⟩, ⟨i4, i5⟩, ⟨i6, i7⟩, i8, ⟨i9, i11⟩, i10, hrt⟩ := htn60.1
  have hid60 := htn60.2.1
  have hch60 := htn60.2.2
  unfold KcI at hch60
  refine px_get S k_Txp hT hw 4 0 15 (v := .int ((TF ip) 15)) rfl rfl rfl (by decide) m6_133 d_Ker_move_1 ?_
  refine lv_if_ne (tgt := 17) S.x S.b d_Ker_move_4 (by decide) (fun c61 => ?_) (fun c61 => ?_)
  · have nc61 : ¬ ((TF ip) 15).toInt = (0 : Int) := mt (i_eq (x := ((TF ip) 15)) (y := 0)).mpr c61
    refine lv_aload_n S.x S.b d_Ker_move_17 rfl (lv_at hl 1 rfl) ?_
    refine lv_iconst (v := 2) S.x S.b d_Ker_move_18 (by decide) ?_
    refine lv_iconst (v := 0) S.x S.b d_Ker_move_19 (by decide) ?_
    refine px_callv (pr := [wd_Ker cs hk kr (fun _ => none) kf ka (gKe pq pz tq rq), fm 13 (fRw cs rq RR RM RW RF RA RC), fm 8 (fPp cs pq PV), fo 13 (fTx cs tq TR TO TF TA) ip]) (px_runU (As := [.int 2, .int 0]) (rest := []) S (c_finish_Txp l D cs hx (TR ip) (fun _ _ => none) hp59 (TF ip) (TA ip) 2 0  (show TxOk ((TF ip) 4) ((TF ip) 5) ((TF ip) 8) ((TF ip) 9) ((TF ip) 17) ((TF ip) 21) ((TA ip) 2) from ⟨(by first | exact lk | exact lk_eq lk (by omega) | exact lk_mk (by omega)), ⟨by omega, by omega⟩, ⟨by omega, by omega⟩, ⟨by omega, by omega⟩, by omega, ⟨by first | exact oz_1b364b1c5f g0 | omega, by first | exact oz_02032f9386 g0 | omega⟩, by omega, hrt⟩) _) hT (pr := [wd_Ker cs hk kr (fun _ => none) kf ka (gKe pq pz tq rq), fm 13 (fRw cs rq RR RM RW RF RA RC), fm 8 (fPp cs pq PV), fo 13 (fTx cs tq TR TO TF TA) ip]) (pcs := [wd_Txp cs hx (TR ip) (fun k => if k = 3 then (some hp59) else none) (TF ip) (TA ip) (fun _ _ => none)]) hw px_X.tt (C := "HomeSystem$TextProcess") (x := ⟨"HomeSystem$AnyProcess", "finish", "(II)V"⟩) (px_recv hT hw 4 0 rfl rfl rfl) m8_89 m8_84 m8_86 m8_85 m8_88 m1_33 rfl q_HomeSystem_AnyProcess_finish ⟨Nat.le_of_ble_eq_true rfl, Nat.le_of_ble_eq_true rfl⟩ hl.1 rfl (Nat.le_of_ble_eq_true rfl) d_Ker_move_20 ⟨show 0 + 0 ≤ (5 * ndS 13 tq + 4 * ndS 13 rq + ndS 13 RM) from by first | with_reducible rfl | with_reducible assumption | omega, show 0 + 0 ≤ (9804 * ndS 13 tq + 342 * ndS 13 rq + 36864 * ndS 13 RM) from by first | with_reducible rfl | with_reducible assumption | omega⟩) hw hA (fun p64 H locs hp64 hw => ?_)
    obtain ⟨f62, a63, rfl, h71, e66, e67, e68, e69, e70⟩ := hp64
    obtain ⟨lk, ⟨i2, i3⟩, ⟨i4, i5⟩, ⟨i6, i7⟩, i8, ⟨i9, i11⟩, i10, hrt⟩ := h71
    replace e66 : (f62 9).toInt = ((TF ip) 9).toInt := e66
    replace e67 : (f62 17).toInt = ((TF ip) 17).toInt := e67
    replace e68 : (f62 21).toInt = 0 := e68
    replace e69 : (f62 15).toInt = ((TF ip) 15).toInt := e69
    replace e70 : (f62 20).toInt = ((TF ip) 20).toInt := e70
    replace hw : pw D A s.heap H locs [wd_Ker cs hk kr (fun _ => none) kf ka (gKe pq pz tq rq), fm 13 (fRw cs rq RR RM RW RF RA RC), fm 8 (fPp cs pq PV), fo 13 (fTx cs tq TR TO TF TA) ip, wd_Txp cs hx (TR ip) (fun k => if k = 3 then (some hp59) else none) f62 a63 (fun _ _ => none)] := hw
    have hw := ftx_in0 (pr := [wd_Ker cs hk kr (fun _ => none) kf ka (gKe pq pz tq rq), fm 13 (fRw cs rq RR RM RW RF RA RC), fm 8 (fPp cs pq PV)]) hw hip hcu.1 hto59
    obtain ⟨TF72, hu_TF72⟩ : ∃ y : Nat → Nat → Int32, y = va_up TF ip f62 := ⟨_, rfl⟩
    obtain ⟨TA73, hu_TA73⟩ : ∃ y : Nat → Nat → Nat → Int32, y = va_up TA ip a63 := ⟨_, rfl⟩
    have hw : pw D A s.heap _ _ [wd_Ker cs hk kr (fun _ => none) kf ka (gKe pq pz tq rq), fm 13 (fRw cs rq RR RM RW RF RA RC), fm 8 (fPp cs pq PV), fm 13 (fTx cs tq TR TO TF72 TA73)] := (by rw [hu_TF72, hu_TA73]; exact hw)
    have hki : KnI pq PV pz tq rq TO TF72 TA73 RW RF := (by rw [hu_TF72, hu_TA73]; exact hki.upT (show TxN ip f62 a63 from ⟨(show TxOk (f62 4) (f62 5) (f62 8) (f62 9) (f62 17) (f62 21) (a63 2) from ⟨(by first | exact lk | exact lk_eq lk (by omega) | exact lk_mk (by omega)), ⟨by omega, by omega⟩, ⟨by omega, by omega⟩, ⟨by omega, by omega⟩, by omega, ⟨by omega, by omega⟩, by omega, hrt⟩), (show ((f62 15).toInt) = ((ip : Nat) : Int) from by first | with_reducible rfl | with_reducible assumption | omega), (show 0 ≤ (f62 20).toInt ∧ (f62 20).toInt ≤ 3 ∧ ((f62 20).toInt = 0 ∨ 3 * ((ip : Nat) : Int) + (f62 20).toInt ≤ 12) from by first | with_reducible rfl | with_reducible assumption | omega)⟩))
    have hz21_TF72 : (TF72 ip 21).toInt = (f62 21).toInt := (by rw [hu_TF72, va_up_s]; try rfl)
    have hw : pw D A s.heap _ _ [wd_Ker cs hk kr (fun _ => none) kf ka (gKe pq pz tq rq), fm 13 (fTx cs tq TR TO TF72 TA73), fm 13 (fRw cs rq RR RM RW RF RA RC), fm 8 (fPp cs pq PV)] := hw.sub [0, 3, 1, 2] rfl rfl
    exact pg_vret S hr hlk hAe hw (show 0 ≤ (5 * ndS 13 tq + 4 * ndS 13 rq + ndS 13 RM) from by first | exact oz_86e49526c7 | omega) (show 0 ≤ (9804 * ndS 13 tq + 342 * ndS 13 rq + 36864 * ndS 13 RM) from by first | exact oz_fc3b58e969 | omega) (⟨pz, tq, rq, ka, TR, TO, TF72, TA73, RR, RM, RW, RF, RA, RC, rfl, (show CuT pq PV tq TO ip hx from hcu), (show KnI pq PV pz tq rq TO TF72 TA73 RW RF from hki), (show RoI ka from hro), (show RmI rq RM from hrm), (show 0 + (5 * ndS 13 tq + 4 * ndS 13 rq + ndS 13 RM) ≤ 5 * ndS 13 tq + 4 * ndS 13 rq + ndS 13 RM from by first | exact oz_9d19b050ad | omega), (show 0 + (9804 * ndS 13 tq + 342 * ndS 13 rq + 36864 * ndS 13 RM) ≤ 9804 * ndS 13 tq + 342 * ndS 13 rq + 36864 * ndS 13 RM from by first | exact oz_b5592d0ae7 | omega)⟩) d_Ker_move_23
  · have nc61 : ((TF ip) 15).toInt = (0 : Int) := (i_eq (x := ((TF ip) 15)) (y := 0)).mp c61
    refine lv_iload_n S.x S.b d_Ker_move_7 rfl (lv_at hl 2 rfl) ?_
    refine lv_if_lt (tgt := 17) S.x S.b d_Ker_move_8 (by decide) (fun c74 => ?_) (fun c74 => ?_)
    · have nc74 : p0.toInt < (0 : Int) := (i_lt (x := p0) (y := 0)).mp c74
      refine lv_aload_n S.x S.b d_Ker_move_17 rfl (lv_at hl 1 rfl) ?_
      refine lv_iconst (v := 2) S.x S.b d_Ker_move_18 (by decide) ?_
      refine lv_iconst (v := 0) S.x S.b d_Ker_move_19 (by decide) ?_
      refine px_callv (pr := [wd_Ker cs hk kr (fun _ => none) kf ka (gKe pq pz tq rq), fm 13 (fRw cs rq RR RM RW RF RA RC), fm 8 (fPp cs pq PV), fo 13 (fTx cs tq TR TO TF TA) ip]) (px_runU (As := [.int 2, .int 0]) (rest := []) S (c_finish_Txp l D cs hx (TR ip) (fun _ _ => none) hp59 (TF ip) (TA ip) 2 0  (show TxOk ((TF ip) 4) ((TF ip) 5) ((TF ip) 8) ((TF ip) 9) ((TF ip) 17) ((TF ip) 21) ((TA ip) 2) from ⟨(by first | exact lk | exact lk_eq lk (by omega) | exact lk_mk (by omega)), ⟨by omega, by omega⟩, ⟨by omega, by omega⟩, ⟨by omega, by omega⟩, by omega, ⟨by first | exact oz_1b364b1c5f g0 | omega, by first | exact oz_02032f9386 g0 | omega⟩, by omega, hrt⟩) _) hT (pr := [wd_Ker cs hk kr (fun _ => none) kf ka (gKe pq pz tq rq), fm 13 (fRw cs rq RR RM RW RF RA RC), fm 8 (fPp cs pq PV), fo 13 (fTx cs tq TR TO TF TA) ip]) (pcs := [wd_Txp cs hx (TR ip) (fun k => if k = 3 then (some hp59) else none) (TF ip) (TA ip) (fun _ _ => none)]) hw px_X.tt (C := "HomeSystem$TextProcess") (x := ⟨"HomeSystem$AnyProcess", "finish", "(II)V"⟩) (px_recv hT hw 4 0 rfl rfl rfl) m8_89 m8_84 m8_86 m8_85 m8_88 m1_33 rfl q_HomeSystem_AnyProcess_finish ⟨Nat.le_of_ble_eq_true rfl, Nat.le_of_ble_eq_true rfl⟩ hl.1 rfl (Nat.le_of_ble_eq_true rfl) d_Ker_move_20 ⟨show 0 + 0 ≤ (5 * ndS 13 tq + 4 * ndS 13 rq + ndS 13 RM) from by first | with_reducible rfl | with_reducible assumption | omega, show 0 + 0 ≤ (9804 * ndS 13 tq + 342 * ndS 13 rq + 36864 * ndS 13 RM) from by first | with_reducible rfl | with_reducible assumption | omega⟩) hw hA (fun p77 H locs hp77 hw => ?_)
      obtain ⟨f75, a76, rfl, h84, e79, e80, e81, e82, e83⟩ := hp77
      obtain ⟨lk, ⟨i2, i3⟩, ⟨i4, i5⟩, ⟨i6, i7⟩, i8, ⟨i9, i11⟩, i10, hrt⟩ := h84
      replace e79 : (f75 9).toInt = ((TF ip) 9).toInt := e79
      replace e80 : (f75 17).toInt = ((TF ip) 17).toInt := e80
      replace e81 : (f75 21).toInt = 0 := e81
      replace e82 : (f75 15).toInt = ((TF ip) 15).toInt := e82
      replace e83 : (f75 20).toInt = ((TF ip) 20).toInt := e83
      replace hw : pw D A s.heap H locs [wd_Ker cs hk kr (fun _ => none) kf ka (gKe pq pz tq rq), fm 13 (fRw cs rq RR RM RW RF RA RC), fm 8 (fPp cs pq PV), fo 13 (fTx cs tq TR TO TF TA) ip, wd_Txp cs hx (TR ip) (fun k => if k = 3 then (some hp59) else none) f75 a76 (fun _ _ => none)] := hw
      have hw := ftx_in0 (pr := [wd_Ker cs hk kr (fun _ => none) kf ka (gKe pq pz tq rq), fm 13 (fRw cs rq RR RM RW RF RA RC), fm 8 (fPp cs pq PV)]) hw hip hcu.1 hto59
      obtain ⟨TF85, hu_TF85⟩ : ∃ y : Nat → Nat → Int32, y = va_up TF ip f75 := ⟨_, rfl⟩
      obtain ⟨TA86, hu_TA86⟩ : ∃ y : Nat → Nat → Nat → Int32, y = va_up TA ip a76 := ⟨_, rfl⟩
      have hw : pw D A s.heap _ _ [wd_Ker cs hk kr (fun _ => none) kf ka (gKe pq pz tq rq), fm 13 (fRw cs rq RR RM RW RF RA RC), fm 8 (fPp cs pq PV), fm 13 (fTx cs tq TR TO TF85 TA86)] := (by rw [hu_TF85, hu_TA86]; exact hw)
      have hki : KnI pq PV pz tq rq TO TF85 TA86 RW RF := (by rw [hu_TF85, hu_TA86]; exact hki.upT (show TxN ip f75 a76 from ⟨(show TxOk (f75 4) (f75 5) (f75 8) (f75 9) (f75 17) (f75 21) (a76 2) from ⟨(by first | exact lk | exact lk_eq lk (by omega) | exact lk_mk (by omega)), ⟨by omega, by omega⟩, ⟨by omega, by omega⟩, ⟨by omega, by omega⟩, by omega, ⟨by omega, by omega⟩, by omega, hrt⟩), (show ((f75 15).toInt) = ((ip : Nat) : Int) from by first | with_reducible rfl | with_reducible assumption | omega), (show 0 ≤ (f75 20).toInt ∧ (f75 20).toInt ≤ 3 ∧ ((f75 20).toInt = 0 ∨ 3 * ((ip : Nat) : Int) + (f75 20).toInt ≤ 12) from by first | with_reducible rfl | with_reducible assumption | omega)⟩))
      have hz21_TF85 : (TF85 ip 21).toInt = (f75 21).toInt := (by rw [hu_TF85, va_up_s]; try rfl)
      have hw : pw D A s.heap _ _ [wd_Ker cs hk kr (fun _ => none) kf ka (gKe pq pz tq rq), fm 13 (fTx cs tq TR TO TF85 TA86), fm 13 (fRw cs rq RR RM RW RF RA RC), fm 8 (fPp cs pq PV)] := hw.sub [0, 3, 1, 2] rfl rfl
      exact pg_vret S hr hlk hAe hw (show 0 ≤ (5 * ndS 13 tq + 4 * ndS 13 rq + ndS 13 RM) from by first | exact oz_86e49526c7 | omega) (show 0 ≤ (9804 * ndS 13 tq + 342 * ndS 13 rq + 36864 * ndS 13 RM) from by first | exact oz_fc3b58e969 | omega) (⟨pz, tq, rq, ka, TR, TO, TF85, TA86, RR, RM, RW, RF, RA, RC, rfl, (show CuT pq PV tq TO ip hx from hcu), (show KnI pq PV pz tq rq TO TF85 TA86 RW RF from hki), (show RoI ka from hro), (show RmI rq RM from hrm), (show 0 + (5 * ndS 13 tq + 4 * ndS 13 rq + ndS 13 RM) ≤ 5 * ndS 13 tq + 4 * ndS 13 rq + ndS 13 RM from by first | exact oz_9d19b050ad | omega), (show 0 + (9804 * ndS 13 tq + 342 * ndS 13 rq + 36864 * ndS 13 RM) ≤ 9804 * ndS 13 tq + 342 * ndS 13 rq + 36864 * ndS 13 RM from by first | exact oz_b5592d0ae7 | omega)⟩) d_Ker_move_23
    · have nc74 : ¬ p0.toInt < (0 : Int) := mt (i_lt (x := p0) (y := 0)).mpr c74
      refine lv_iload_n S.x S.b d_Ker_move_11 rfl (lv_at hl 2 rfl) ?_
      refine lv_bipush (v := 8) S.x S.b d_Ker_move_12 (by decide) ?_
      refine lv_icmp_lt (tgt := 24) S.x S.b d_Ker_move_14 (by decide) (fun c87 => ?_) (fun c87 => ?_)
      · have nc87 : p0.toInt < (8 : Int) := (i_lt (x := p0) (y := 8)).mp c87
        refine lv_aload_n S.x S.b d_Ker_move_24 rfl (lv_at hl 1 rfl) ?_
        refine px_calli (pr := [wd_Ker cs hk kr (fun _ => none) kf ka (gKe pq pz tq rq), fm 13 (fRw cs rq RR RM RW RF RA RC), fm 8 (fPp cs pq PV), fo 13 (fTx cs tq TR TO TF TA) ip]) (px_runA (As := []) (rest := []) S (c_Txp_movable l D cs hx (TR ip) (fun _ _ => none) hp59 (TF ip) (TA ip)   (show TxOk ((TF ip) 4) ((TF ip) 5) ((TF ip) 8) ((TF ip) 9) ((TF ip) 17) ((TF ip) 21) ((TA ip) 2) from ⟨(by first | exact lk | exact lk_eq lk (by omega) | exact lk_mk (by omega)), ⟨by omega, by omega⟩, ⟨by omega, by omega⟩, ⟨by omega, by omega⟩, by omega, ⟨by first | exact oz_1b364b1c5f g0 | omega, by first | exact oz_02032f9386 g0 | omega⟩, by omega, hrt⟩) _) hT (pr := [wd_Ker cs hk kr (fun _ => none) kf ka (gKe pq pz tq rq), fm 13 (fRw cs rq RR RM RW RF RA RC), fm 8 (fPp cs pq PV), fo 13 (fTx cs tq TR TO TF TA) ip]) (pcs := [wd_Txp cs hx (TR ip) (fun k => if k = 3 then (some hp59) else none) (TF ip) (TA ip) (fun _ _ => none)]) hw px_X.tt (C := "HomeSystem$TextProcess") (owner := "HomeSystem$AnyProcess") (x := ⟨"HomeSystem$AnyProcess", "movable", "()I"⟩) (px_recv hT hw 4 0 rfl rfl rfl) m8_110 m8_90 m8_92 m8_109 m8_108 m1_35 m8_91n ⟨by decide, by decide⟩ rfl q_Txp_movable ⟨Nat.le_of_ble_eq_true rfl, Nat.le_of_ble_eq_true rfl⟩ hl.1 rfl (Nat.le_of_ble_eq_true rfl) d_Ker_move_25 ⟨show 0 + 0 ≤ (5 * ndS 13 tq + 4 * ndS 13 rq + ndS 13 RM) from by first | with_reducible rfl | with_reducible assumption | omega, show 0 + 0 ≤ (9804 * ndS 13 tq + 342 * ndS 13 rq + 36864 * ndS 13 RM) from by first | with_reducible rfl | with_reducible assumption | omega⟩) hw hA (fun v89 p88 H locs hp88 hw => ?_)
        obtain ⟨rfl, e90⟩ := hp88
        replace e90 : v89.toInt ≤ 16 := e90
        replace hw : pw D A s.heap H locs [wd_Ker cs hk kr (fun _ => none) kf ka (gKe pq pz tq rq), fm 13 (fRw cs rq RR RM RW RF RA RC), fm 8 (fPp cs pq PV), fo 13 (fTx cs tq TR TO TF TA) ip, wd_Txp cs hx (TR ip) (fun k => if k = 3 then (some hp59) else none) (TF ip) (TA ip) (fun _ _ => none)] := hw
        have lv89 := Int32.le_toInt v89
        have uv89 := Int32.toInt_lt v89
        refine lv_istore_n (lv' := [(3, .int v89), (0, .ref hk), (1, .ref hx), (2, .int p0)]) S.x S.b d_Ker_move_28 rfl hl (by decide) rfl (fun ls hl => ?_)
        refine lv_iload_n S.x S.b d_Ker_move_29 rfl (lv_at hl 0 rfl) ?_
        refine lv_iconst (v := (-1)) S.x S.b d_Ker_move_30 (by decide) ?_
        refine lv_icmp_ne (tgt := 42) S.x S.b d_Ker_move_31 (by decide) (fun c91 => ?_) (fun c91 => ?_)
        · have nc91 : ¬ v89.toInt = (-1 : Int) := mt (i_eq (x := v89) (y := (-1))).mpr c91
          refine lv_iconst (v := 0) S.x S.b d_Ker_move_42 (by decide) ?_
          refine lv_istore (lv' := [(4, .int 0), (3, .int v89), (0, .ref hk), (1, .ref hx), (2, .int p0)]) S.x S.b d_Ker_move_43 hl (by decide) rfl (fun ls hl => ?_)
          have hw : pw D A s.heap _ _ [wd_Ker cs hk kr (fun _ => none) kf ka (gKe pq pz tq rq), fm 13 (fRw cs rq RR RM RW RF RA RC), fm 8 (fPp cs pq PV), fm 13 (fTx cs tq TR TO TF TA)] := ftx_back (pr := [wd_Ker cs hk kr (fun _ => none) kf ka (gKe pq pz tq rq), fm 13 (fRw cs rq RR RM RW RF RA RC), fm 8 (fPp cs pq PV)]) hw hip hcu.1 hto59
          have hw : pw D A s.heap _ _ [wd_Ker cs hk kr (fun _ => none) kf ka (gKe pq pz tq rq), fm 13 (fTx cs tq TR TO TF TA), fm 13 (fRw cs rq RR RM RW RF RA RC), fm 8 (fPp cs pq PV)] := hw.sub [0, 3, 1, 2] rfl rfl
          exact J45 ((v89.toInt - (0 : Int) + 4294967297).toNat + 1) 0 0 pz tq rq ka TR TO TF TA RR RM RW RF RA RC v89 (0 : Int32) _ _ ls (show KnI pq PV pz tq rq TO TF TA RW RF from hki) (show RoI ka from hro) (show RmI rq RM from hrm) (show CuT pq PV tq TO ip hx from hcu) (show 0 ≤ (0 : Int) from by first | decide | omega) (show (0 : Int) ≤ 16 from by first | decide | omega) (show v89.toInt ≤ 16 from by first | exact e90 | omega) (show 0 ≤ p0.toInt from by first | exact oz_18a5c06a28 nc74 | omega) (show p0.toInt ≤ 7 from by first | exact oz_2516c64904 nc87 | omega) (show 0 + (5 * ndS 13 tq + 4 * ndS 13 rq + ndS 13 RM) ≤ 5 * ndS 13 tq + 4 * ndS 13 rq + ndS 13 RM from by first | exact oz_9d19b050ad | omega) (show 0 + (9804 * ndS 13 tq + 342 * ndS 13 rq + 36864 * ndS 13 RM) ≤ 9804 * ndS 13 tq + 342 * ndS 13 rq + 36864 * ndS 13 RM from by first | exact oz_b5592d0ae7 | omega) (show v89.toInt - (0 : Int) + 4294967297 < ((((v89.toInt - (0 : Int) + 4294967297).toNat + 1 : Nat) : Int) : Int) from by first | exact oz_natlt | omega) hw (lv_sub hl [2, 3, 4, 1, 0] rfl)
        · have nc91 : v89.toInt = (-1 : Int) := (i_eq (x := v89) (y := (-1))).mp c91
          refine lv_aload_n S.x S.b d_Ker_move_34 rfl (lv_at hl 2 rfl) ?_
          refine lv_bipush (v := 7) S.x S.b d_Ker_move_35 (by decide) ?_
          refine lv_iconst (v := 0) S.x S.b d_Ker_move_37 (by decide) ?_
          refine px_callv (pr := [wd_Ker cs hk kr (fun _ => none) kf ka (gKe pq pz tq rq), fm 13 (fRw cs rq RR RM RW RF RA RC), fm 8 (fPp cs pq PV), fo 13 (fTx cs tq TR TO TF TA) ip]) (px_runU (As := [.int 7, .int 0]) (rest := []) S (c_finish_Txp l D cs hx (TR ip) (fun _ _ => none) hp59 (TF ip) (TA ip) 7 0  (show TxOk ((TF ip) 4) ((TF ip) 5) ((TF ip) 8) ((TF ip) 9) ((TF ip) 17) ((TF ip) 21) ((TA ip) 2) from ⟨(by first | exact lk | exact lk_eq lk (by omega) | exact lk_mk (by omega)), ⟨by omega, by omega⟩, ⟨by omega, by omega⟩, ⟨by omega, by omega⟩, by omega, ⟨by first | exact oz_1b364b1c5f g0 | omega, by first | exact oz_02032f9386 g0 | omega⟩, by omega, hrt⟩) _) hT (pr := [wd_Ker cs hk kr (fun _ => none) kf ka (gKe pq pz tq rq), fm 13 (fRw cs rq RR RM RW RF RA RC), fm 8 (fPp cs pq PV), fo 13 (fTx cs tq TR TO TF TA) ip]) (pcs := [wd_Txp cs hx (TR ip) (fun k => if k = 3 then (some hp59) else none) (TF ip) (TA ip) (fun _ _ => none)]) hw px_X.tt (C := "HomeSystem$TextProcess") (x := ⟨"HomeSystem$AnyProcess", "finish", "(II)V"⟩) (px_recv hT hw 4 0 rfl rfl rfl) m8_89 m8_84 m8_86 m8_85 m8_88 m1_33 rfl q_HomeSystem_AnyProcess_finish ⟨Nat.le_of_ble_eq_true rfl, Nat.le_of_ble_eq_true rfl⟩ hl.1 rfl (Nat.le_of_ble_eq_true rfl) d_Ker_move_38 ⟨show 0 + 0 ≤ (5 * ndS 13 tq + 4 * ndS 13 rq + ndS 13 RM) from by first | with_reducible rfl | with_reducible assumption | omega, show 0 + 0 ≤ (9804 * ndS 13 tq + 342 * ndS 13 rq + 36864 * ndS 13 RM) from by first | with_reducible rfl | with_reducible assumption | omega⟩) hw hA (fun p94 H locs hp94 hw => ?_)
          obtain ⟨f92, a93, rfl, h101, e96, e97, e98, e99, e100⟩ := hp94
          obtain ⟨lk, ⟨i2, i3⟩, ⟨i4, i5⟩, ⟨i6, i7⟩, i8, ⟨i9, i11⟩, i10, hrt⟩ := h101
          replace e96 : (f92 9).toInt = ((TF ip) 9).toInt := e96
          replace e97 : (f92 17).toInt = ((TF ip) 17).toInt := e97
          replace e98 : (f92 21).toInt = 0 := e98
          replace e99 : (f92 15).toInt = ((TF ip) 15).toInt := e99
          replace e100 : (f92 20).toInt = ((TF ip) 20).toInt := e100
          replace hw : pw D A s.heap H locs [wd_Ker cs hk kr (fun _ => none) kf ka (gKe pq pz tq rq), fm 13 (fRw cs rq RR RM RW RF RA RC), fm 8 (fPp cs pq PV), fo 13 (fTx cs tq TR TO TF TA) ip, wd_Txp cs hx (TR ip) (fun k => if k = 3 then (some hp59) else none) f92 a93 (fun _ _ => none)] := hw
          have hw := ftx_in0 (pr := [wd_Ker cs hk kr (fun _ => none) kf ka (gKe pq pz tq rq), fm 13 (fRw cs rq RR RM RW RF RA RC), fm 8 (fPp cs pq PV)]) hw hip hcu.1 hto59
          obtain ⟨TF102, hu_TF102⟩ : ∃ y : Nat → Nat → Int32, y = va_up TF ip f92 := ⟨_, rfl⟩
          obtain ⟨TA103, hu_TA103⟩ : ∃ y : Nat → Nat → Nat → Int32, y = va_up TA ip a93 := ⟨_, rfl⟩
          have hw : pw D A s.heap _ _ [wd_Ker cs hk kr (fun _ => none) kf ka (gKe pq pz tq rq), fm 13 (fRw cs rq RR RM RW RF RA RC), fm 8 (fPp cs pq PV), fm 13 (fTx cs tq TR TO TF102 TA103)] := (by rw [hu_TF102, hu_TA103]; exact hw)
          have hki : KnI pq PV pz tq rq TO TF102 TA103 RW RF := (by rw [hu_TF102, hu_TA103]; exact hki.upT (show TxN ip f92 a93 from ⟨(show TxOk (f92 4) (f92 5) (f92 8) (f92 9) (f92 17) (f92 21) (a93 2) from ⟨(by first | exact lk | exact lk_eq lk (by omega) | exact lk_mk (by omega)), ⟨by omega, by omega⟩, ⟨by omega, by omega⟩, ⟨by omega, by omega⟩, by omega, ⟨by omega, by omega⟩, by omega, hrt⟩), (show ((f92 15).toInt) = ((ip : Nat) : Int) from by first | with_reducible rfl | with_reducible assumption | omega), (show 0 ≤ (f92 20).toInt ∧ (f92 20).toInt ≤ 3 ∧ ((f92 20).toInt = 0 ∨ 3 * ((ip : Nat) : Int) + (f92 20).toInt ≤ 12) from by first | with_reducible rfl | with_reducible assumption | omega)⟩))
          have hz21_TF102 : (TF102 ip 21).toInt = (f92 21).toInt := (by rw [hu_TF102, va_up_s]; try rfl)
          have hw : pw D A s.heap _ _ [wd_Ker cs hk kr (fun _ => none) kf ka (gKe pq pz tq rq), fm 13 (fTx cs tq TR TO TF102 TA103), fm 13 (fRw cs rq RR RM RW RF RA RC), fm 8 (fPp cs pq PV)] := hw.sub [0, 3, 1, 2] rfl rfl
          exact pg_vret S hr hlk hAe hw (show 0 ≤ (5 * ndS 13 tq + 4 * ndS 13 rq + ndS 13 RM) from by first | exact oz_86e49526c7 | omega) (show 0 ≤ (9804 * ndS 13 tq + 342 * ndS 13 rq + 36864 * ndS 13 RM) from by first | exact oz_fc3b58e969 | omega) (⟨pz, tq, rq, ka, TR, TO, TF102, TA103, RR, RM, RW, RF, RA, RC, rfl, (show CuT pq PV tq TO ip hx from hcu), (show KnI pq PV pz tq rq TO TF102 TA103 RW RF from hki), (show RoI ka from hro), (show RmI rq RM from hrm), (show 0 + (5 * ndS 13 tq + 4 * ndS 13 rq + ndS 13 RM) ≤ 5 * ndS 13 tq + 4 * ndS 13 rq + ndS 13 RM from by first | exact oz_9d19b050ad | omega), (show 0 + (9804 * ndS 13 tq + 342 * ndS 13 rq + 36864 * ndS 13 RM) ≤ 9804 * ndS 13 tq + 342 * ndS 13 rq + 36864 * ndS 13 RM from by first | exact oz_b5592d0ae7 | omega)⟩) d_Ker_move_41
      · have nc87 : ¬ p0.toInt < (8 : Int) := mt (i_lt (x := p0) (y := 8)).mpr c87
        refine lv_aload_n S.x S.b d_Ker_move_17 rfl (lv_at hl 1 rfl) ?_
        refine lv_iconst (v := 2) S.x S.b d_Ker_move_18 (by decide) ?_
        refine lv_iconst (v := 0) S.x S.b d_Ker_move_19 (by decide) ?_
        refine px_callv (pr := [wd_Ker cs hk kr (fun _ => none) kf ka (gKe pq pz tq rq), fm 13 (fRw cs rq RR RM RW RF RA RC), fm 8 (fPp cs pq PV), fo 13 (fTx cs tq TR TO TF TA) ip]) (px_runU (As := [.int 2, .int 0]) (rest := []) S (c_finish_Txp l D cs hx (TR ip) (fun _ _ => none) hp59 (TF ip) (TA ip) 2 0  (show TxOk ((TF ip) 4) ((TF ip) 5) ((TF ip) 8) ((TF ip) 9) ((TF ip) 17) ((TF ip) 21) ((TA ip) 2) from ⟨(by first | exact lk | exact lk_eq lk (by omega) | exact lk_mk (by omega)), ⟨by omega, by omega⟩, ⟨by omega, by omega⟩, ⟨by omega, by omega⟩, by omega, ⟨by first | exact oz_1b364b1c5f g0 | omega, by first | exact oz_02032f9386 g0 | omega⟩, by omega, hrt⟩) _) hT (pr := [wd_Ker cs hk kr (fun _ => none) kf ka (gKe pq pz tq rq), fm 13 (fRw cs rq RR RM RW RF RA RC), fm 8 (fPp cs pq PV), fo 13 (fTx cs tq TR TO TF TA) ip]) (pcs := [wd_Txp cs hx (TR ip) (fun k => if k = 3 then (some hp59) else none) (TF ip) (TA ip) (fun _ _ => none)]) hw px_X.tt (C := "HomeSystem$TextProcess") (x := ⟨"HomeSystem$AnyProcess", "finish", "(II)V"⟩) (px_recv hT hw 4 0 rfl rfl rfl) m8_89 m8_84 m8_86 m8_85 m8_88 m1_33 rfl q_HomeSystem_AnyProcess_finish ⟨Nat.le_of_ble_eq_true rfl, Nat.le_of_ble_eq_true rfl⟩ hl.1 rfl (Nat.le_of_ble_eq_true rfl) d_Ker_move_20 ⟨show 0 + 0 ≤ (5 * ndS 13 tq + 4 * ndS 13 rq + ndS 13 RM) from by first | with_reducible rfl | with_reducible assumption | omega, show 0 + 0 ≤ (9804 * ndS 13 tq + 342 * ndS 13 rq + 36864 * ndS 13 RM) from by first | with_reducible rfl | with_reducible assumption | omega⟩) hw hA (fun p106 H locs hp106 hw => ?_)
        obtain ⟨f104, a105, rfl, h113, e108, e109, e110, e111, e112⟩ := hp106
        obtain ⟨lk, ⟨i2, i3⟩, ⟨i4, i5⟩, ⟨i6, i7⟩, i8, ⟨i9, i11⟩, i10, hrt⟩ := h113
        replace e108 : (f104 9).toInt = ((TF ip) 9).toInt := e108
        replace e109 : (f104 17).toInt = ((TF ip) 17).toInt := e109
        replace e110 : (f104 21).toInt = 0 := e110
        replace e111 : (f104 15).toInt = ((TF ip) 15).toInt := e111
        replace e112 : (f104 20).toInt = ((TF ip) 20).toInt := e112
        replace hw : pw D A s.heap H locs [wd_Ker cs hk kr (fun _ => none) kf ka (gKe pq pz tq rq), fm 13 (fRw cs rq RR RM RW RF RA RC), fm 8 (fPp cs pq PV), fo 13 (fTx cs tq TR TO TF TA) ip, wd_Txp cs hx (TR ip) (fun k => if k = 3 then (some hp59) else none) f104 a105 (fun _ _ => none)] := hw
        have hw := ftx_in0 (pr := [wd_Ker cs hk kr (fun _ => none) kf ka (gKe pq pz tq rq), fm 13 (fRw cs rq RR RM RW RF RA RC), fm 8 (fPp cs pq PV)]) hw hip hcu.1 hto59
        obtain ⟨TF114, hu_TF114⟩ : ∃ y : Nat → Nat → Int32, y = va_up TF ip f104 := ⟨_, rfl⟩
        obtain ⟨TA115, hu_TA115⟩ : ∃ y : Nat → Nat → Nat → Int32, y = va_up TA ip a105 := ⟨_, rfl⟩
        have hw : pw D A s.heap _ _ [wd_Ker cs hk kr (fun _ => none) kf ka (gKe pq pz tq rq), fm 13 (fRw cs rq RR RM RW RF RA RC), fm 8 (fPp cs pq PV), fm 13 (fTx cs tq TR TO TF114 TA115)] := (by rw [hu_TF114, hu_TA115]; exact hw)
        have hki : KnI pq PV pz tq rq TO TF114 TA115 RW RF := (by rw [hu_TF114, hu_TA115]; exact hki.upT (show TxN ip f104 a105 from ⟨(show TxOk (f104 4) (f104 5) (f104 8) (f104 9) (f104 17) (f104 21) (a105 2) from ⟨(by first | exact lk | exact lk_eq lk (by omega) | exact lk_mk (by omega)), ⟨by omega, by omega⟩, ⟨by omega, by omega⟩, ⟨by omega, by omega⟩, by omega, ⟨by omega, by omega⟩, by omega, hrt⟩), (show ((f104 15).toInt) = ((ip : Nat) : Int) from by first | with_reducible rfl | with_reducible assumption | omega), (show 0 ≤ (f104 20).toInt ∧ (f104 20).toInt ≤ 3 ∧ ((f104 20).toInt = 0 ∨ 3 * ((ip : Nat) : Int) + (f104 20).toInt ≤ 12) from by first | with_reducible rfl | with_reducible assumption | omega)⟩))
        have hz21_TF114 : (TF114 ip 21).toInt = (f104 21).toInt := (by rw [hu_TF114, va_up_s]; try rfl)
        have hw : pw D A s.heap _ _ [wd_Ker cs hk kr (fun _ => none) kf ka (gKe pq pz tq rq), fm 13 (fTx cs tq TR TO TF114 TA115), fm 13 (fRw cs rq RR RM RW RF RA RC), fm 8 (fPp cs pq PV)] := hw.sub [0, 3, 1, 2] rfl rfl
        exact pg_vret S hr hlk hAe hw (show 0 ≤ (5 * ndS 13 tq + 4 * ndS 13 rq + ndS 13 RM) from by first | exact oz_86e49526c7 | omega) (show 0 ≤ (9804 * ndS 13 tq + 342 * ndS 13 rq + 36864 * ndS 13 RM) from by first | exact oz_fc3b58e969 | omega) (⟨pz, tq, rq, ka, TR, TO, TF114, TA115, RR, RM, RW, RF, RA, RC, rfl, (show CuT pq PV tq TO ip hx from hcu), (show KnI pq PV pz tq rq TO TF114 TA115 RW RF from hki), (show RoI ka from hro), (show RmI rq RM from hrm), (show 0 + (5 * ndS 13 tq + 4 * ndS 13 rq + ndS 13 RM) ≤ 5 * ndS 13 tq + 4 * ndS 13 rq + ndS 13 RM from by first | exact oz_9d19b050ad | omega), (show 0 + (9804 * ndS 13 tq + 342 * ndS 13 rq + 36864 * ndS 13 RM) ≤ 9804 * ndS 13 tq + 342 * ndS 13 rq + 36864 * ndS 13 RM from by first | exact oz_b5592d0ae7 | omega)⟩) d_Ker_move_23
set_option maxHeartbeats 4000000 in
set_option maxRecDepth 100000 in
theorem c_k_move_R (l : Launch) (D : va_G) (cs : Nat → ClassId) (hk : Nat) (kr : Nat → Nat) (pq : Nat → Option Nat) (kf : Nat → Int32) (PV : Nat → Pvs) (pz : Nat → Option Nat) (tq : Nat → Option Nat) (rq : Nat → Option Nat) (ka : Nat → Nat → Int32) (TR : Nat → Nat → Nat) (TO : Nat → Option Nat) (TF : Nat → Nat → Int32) (TA : Nat → Nat → Nat → Int32) (RR : Nat → Nat → Nat) (RM : Nat → Option Nat) (RW : Nat → Option Nat) (RF : Nat → Nat → Int32) (RA : Nat → Nat → Nat → Int32) (RC : Nat → Nat → Int32) (p0 : Int32) (ip hx : Nat) (g0 : (RF ip 14).toInt = 1) (hki : KnI pq PV pz tq rq TO TF TA RW RF) (hro : RoI ka) (hrm : RmI rq RM) (hip : ip < 13) (hcu : CuR pq PV rq RW ip hx) : MgV l y_Ker_move b_Ker_move 5 D cs 6 240 ((5 * ndS 13 tq + 4 * ndS 13 rq + ndS 13 RM)) ((9804 * ndS 13 tq + 342 * ndS 13 rq + 36864 * ndS 13 RM)) [.ref hk, .ref hx, .int p0] [wd_Ker cs hk kr (fun _ => none) kf ka (gKe pq pz tq rq), fm 13 (fTx cs tq TR TO TF TA), fm 13 (fRw cs rq RR RM RW RF RA RC), fm 8 (fPp cs pq PV)] (fun _ => True) (fun ps => ∃ (pz' : Nat → Option Nat) (tq' : Nat → Option Nat) (rq' : Nat → Option Nat) (ka' : Nat → Nat → Int32) (TR' : Nat → Nat → Nat) (TO' : Nat → Option Nat) (TF' : Nat → Nat → Int32) (TA' : Nat → Nat → Nat → Int32) (RR' : Nat → Nat → Nat) (RM' : Nat → Option Nat) (RW' : Nat → Option Nat) (RF' : Nat → Nat → Int32) (RA' : Nat → Nat → Nat → Int32) (RC' : Nat → Nat → Int32), (ps.1 = [wd_Ker cs hk kr (fun _ => none) kf ka' (gKe pq pz' tq' rq'), fm 13 (fTx cs tq' TR' TO' TF' TA'), fm 13 (fRw cs rq' RR' RM' RW' RF' RA' RC'), fm 8 (fPp cs pq PV)]) ∧ (CuR pq PV rq' RW' ip hx) ∧ (KnI pq PV pz' tq' rq' TO' TF' TA' RW' RF') ∧ (RoI ka') ∧ (RmI rq' RM') ∧ (ps.2.1 + (5 * ndS 13 tq' + 4 * ndS 13 rq' + ndS 13 RM') ≤ 5 * ndS 13 tq + 4 * ndS 13 rq + ndS 13 RM) ∧ (ps.2.2 + (9804 * ndS 13 tq' + 342 * ndS 13 rq' + 36864 * ndS 13 RM') ≤ 9804 * ndS 13 tq + 342 * ndS 13 rq + 36864 * ndS 13 RM)) := by
  refine pg_enter (by decide) (Nat.le_of_ble_eq_true rfl) ?_
  intro p e s m below meth c A ls hAe S hr hlk hnm hA hT hX hw hl
  replace hl : lv_has ls 5 [(0, .ref hk), (1, .ref hx), (2, .int p0)] := hl
  have lp0 := Int32.le_toInt p0
  have up0 := Int32.toInt_lt p0
  have cstm1 : ((-1) : Int32).toInt = (-1) := rfl
  have cst0 : (0 : Int32).toInt = 0 := rfl
  have cst2 : (2 : Int32).toInt = 2 := rfl
  have cst7 : (7 : Int32).toInt = 7 := rfl
  have cst8 : (8 : Int32).toInt = 8 := rfl
  have cst16 : (16 : Int32).toInt = 16 := rfl
  have J45 : ∀ (n_45 : Nat) (ce_45 sl_45 : Nat) (pz_45 : Nat → Option Nat) (tq_45 : Nat → Option Nat) (rq_45 : Nat → Option Nat) (ka_45 : Nat → Nat → Int32) (TR_45 : Nat → Nat → Nat) (TO_45 : Nat → Option Nat) (TF_45 : Nat → Nat → Int32) (TA_45 : Nat → Nat → Nat → Int32) (RR_45 : Nat → Nat → Nat) (RM_45 : Nat → Option Nat) (RW_45 : Nat → Option Nat) (RF_45 : Nat → Nat → Int32) (RA_45 : Nat → Nat → Nat → Int32) (RC_45 : Nat → Nat → Int32) (x45_3 x45_4 : Int32) (H : Heap) (locs : List Loc) (ls : Array Slot), (KnI pq PV pz_45 tq_45 rq_45 TO_45 TF_45 TA_45 RW_45 RF_45) → (RoI ka_45) → (RmI rq_45 RM_45) → (CuR pq PV rq_45 RW_45 ip hx) → (0 ≤ x45_4.toInt) → (x45_4.toInt ≤ 16) → (x45_3.toInt ≤ 16) → (0 ≤ p0.toInt) → (p0.toInt ≤ 7) → ((RF_45 ip 14).toInt = 1) → (ce_45 + (5 * ndS 13 tq_45 + 4 * ndS 13 rq_45 + ndS 13 RM_45) ≤ 5 * ndS 13 tq + 4 * ndS 13 rq + ndS 13 RM) → (sl_45 + (9804 * ndS 13 tq_45 + 342 * ndS 13 rq_45 + 36864 * ndS 13 RM_45) ≤ 9804 * ndS 13 tq + 342 * ndS 13 rq + 36864 * ndS 13 RM) → x45_3.toInt - x45_4.toInt + 4294967297 < (n_45 : Int) → pw D A s.heap H locs [wd_Ker cs hk kr (fun _ => none) kf ka_45 (gKe pq pz_45 tq_45 rq_45), fm 13 (fTx cs tq_45 TR_45 TO_45 TF_45 TA_45), fm 13 (fRw cs rq_45 RR_45 RM_45 RW_45 RF_45 RA_45 RC_45), fm 8 (fPp cs pq PV)] → lv_has ls 5 [(0, .ref hk), (1, .ref hx), (2, .int p0), (3, .int x45_3), (4, .int x45_4)] → W p l e { frames := 6, cells := (5 * ndS 13 tq + 4 * ndS 13 rq + ndS 13 RM), slots := (9804 * ndS 13 tq + 342 * ndS 13 rq + 36864 * ndS 13 RM), locals := 240 } s m [.ref hk, .ref hx, .int p0].toArray below meth c H locs ce_45 sl_45 (MQ below (va_Qv (fun ps => ∃ (pz' : Nat → Option Nat) (tq' : Nat → Option Nat) (rq' : Nat → Option Nat) (ka' : Nat → Nat → Int32) (TR' : Nat → Nat → Nat) (TO' : Nat → Option Nat) (TF' : Nat → Nat → Int32) (TA' : Nat → Nat → Nat → Int32) (RR' : Nat → Nat → Nat) (RM' : Nat → Option Nat) (RW' : Nat → Option Nat) (RF' : Nat → Nat → Int32) (RA' : Nat → Nat → Nat → Int32) (RC' : Nat → Nat → Int32), (ps.1 = [wd_Ker cs hk kr (fun _ => none) kf ka' (gKe pq pz' tq' rq'), fm 13 (fTx cs tq' TR' TO' TF' TA'), fm 13 (fRw cs rq' RR' RM' RW' RF' RA' RC'), fm 8 (fPp cs pq PV)]) ∧ (CuR pq PV rq' RW' ip hx) ∧ (KnI pq PV pz' tq' rq' TO' TF' TA' RW' RF') ∧ (RoI ka') ∧ (RmI rq' RM') ∧ (ps.2.1 + (5 * ndS 13 tq' + 4 * ndS 13 rq' + ndS 13 RM') ≤ 5 * ndS 13 tq + 4 * ndS 13 rq + ndS 13 RM) ∧ (ps.2.2 + (9804 * ndS 13 tq' + 342 * ndS 13 rq' + 36864 * ndS 13 RM') ≤ 9804 * ndS 13 tq + 342 * ndS 13 rq + 36864 * ndS 13 RM)) (pg_B D (va_A ([wd_Ker cs hk kr (fun _ => none) kf ka (gKe pq pz tq rq), fm 13 (fTx cs tq TR TO TF TA), fm 13 (fRw cs rq RR RM RW RF RA RC), fm 8 (fPp cs pq PV)] : List va_W).flatten s.heap.size) s.heap.size (tot s.heap)) (va_A ([wd_Ker cs hk kr (fun _ => none) kf ka (gKe pq pz tq rq), fm 13 (fTx cs tq TR TO TF TA), fm 13 (fRw cs rq RR RM RW RF RA RC), fm 8 (fPp cs pq PV)] : List va_W).flatten s.heap.size)) [.ref hk, .ref hx, .int p0].toArray s (5 * ndS 13 tq + 4 * ndS 13 rq + ndS 13 RM) (9804 * ndS 13 tq + 342 * ndS 13 rq + 36864 * ndS 13 RM) A) (F0 m 45 ls []) := by
    intro  n_45
    induction n_45 with
    | zero =>
      intro ce_45 sl_45 pz_45 tq_45 rq_45 ka_45 TR_45 TO_45 TF_45 TA_45 RR_45 RM_45 RW_45 RF_45 RA_45 RC_45 x45_3 x45_4 H locs ls k45_0 k45_1 k45_2 k45_3 k45_4 k45_5 k45_6 k45_7 k45_8 k45_9 k45_10 k45_11 hm hw hl
      have lx45_3 := Int32.le_toInt x45_3
      have ux45_3 := Int32.toInt_lt x45_3
      have lx45_4 := Int32.le_toInt x45_4
      have ux45_4 := Int32.toInt_lt x45_4
      have hki := k45_0
      have hro := k45_1
      have hrm := k45_2
      obtain ⟨j1, hp1, hj1, hjq1, hto1⟩ := k45_3.2
      exact absurd hm (by omega)
    | succ n_45 ih45 =>
      intro ce_45 sl_45 pz_45 tq_45 rq_45 ka_45 TR_45 TO_45 TF_45 TA_45 RR_45 RM_45 RW_45 RF_45 RA_45 RC_45 x45_3 x45_4 H locs ls k45_0 k45_1 k45_2 k45_3 k45_4 k45_5 k45_6 k45_7 k45_8 k45_9 k45_10 k45_11 hm hw hl
      have lx45_3 := Int32.le_toInt x45_3
      have ux45_3 := Int32.toInt_lt x45_3
      have lx45_4 := Int32.le_toInt x45_4
      have ux45_4 := Int32.toInt_lt x45_4
      have hki := k45_0
      have hro := k45_1
      have hrm := k45_2
      obtain ⟨j2, hp2, hj2, hjq2, hto2⟩ := k45_3.2
      refine lv_iload S.x S.b d_Ker_move_45 (lv_at hl 4 rfl) ?_
      refine lv_iload_n S.x S.b d_Ker_move_47 rfl (lv_at hl 3 rfl) ?_
      refine lv_icmp_ge (tgt := 112) S.x S.b d_Ker_move_48 (by decide) (fun c3 => ?_) (fun c3 => ?_)
      · have nc3 : x45_3.toInt ≤ x45_4.toInt := (i_le (x := x45_3) (y := x45_4)).mp c3
        refine lv_aload_n S.x S.b d_Ker_move_112 rfl (lv_at hl 1 rfl) ?_
        refine lv_iconst (v := 0) S.x S.b d_Ker_move_113 (by decide) ?_
        have hw : pw D A s.heap _ _ [wd_Ker cs hk kr (fun _ => none) kf ka_45 (gKe pq pz_45 tq_45 rq_45), fm 13 (fTx cs tq_45 TR_45 TO_45 TF_45 TA_45), fm 8 (fPp cs pq PV), fm 13 (fRw cs rq_45 RR_45 RM_45 RW_45 RF_45 RA_45 RC_45)] := hw.sub [0, 1, 3, 2] rfl rfl
        have hw : pw D A s.heap _ _ [wd_Ker cs hk kr (fun _ => none) kf ka_45 (gKe pq pz_45 tq_45 rq_45), fm 13 (fTx cs tq_45 TR_45 TO_45 TF_45 TA_45), fm 8 (fPp cs pq PV), fo 13 (fRw cs rq_45 RR_45 RM_45 RW_45 RF_45 RA_45 RC_45) ip, wd_Raw cs hx (RR_45 ip) (fun k => if k = 2 then (RM_45 ip) else if k = 4 then (some ((PV j2).r 1)) else none) (RF_45 ip) (RA_45 ip) (fun _ _ => none), nA cs (RM_45 ip) 36864 (RC_45 ip)] := frw_out (pr := [wd_Ker cs hk kr (fun _ => none) kf ka_45 (gKe pq pz_45 tq_45 rq_45), fm 13 (fTx cs tq_45 TR_45 TO_45 TF_45 TA_45), fm 8 (fPp cs pq PV)]) hw hip k45_3.1 hto2
        have hng4 := ndS_ge 13 RM_45 ip hip
        have hrn4 : RwN ip (RF_45 ip) := hki.2.2.1 ip hip _ k45_3.1
        have hro4 := hrn4.1
        unfold RwO at hro4
        have hid4 := hrn4.2.1
        have hch4 := hrn4.2.2
        unfold KcI at hch4
        have hw : pw D A s.heap _ _ [wd_Ker cs hk kr (fun _ => none) kf ka_45 (gKe pq pz_45 tq_45 rq_45), fm 13 (fTx cs tq_45 TR_45 TO_45 TF_45 TA_45), fm 8 (fPp cs pq PV), fo 13 (fRw cs rq_45 RR_45 RM_45 RW_45 RF_45 RA_45 RC_45) ip, nA cs (RM_45 ip) 36864 (RC_45 ip), wd_Raw cs hx (RR_45 ip) (fun k => if k = 2 then (RM_45 ip) else if k = 4 then (some ((PV j2).r 1)) else none) (RF_45 ip) (RA_45 ip) (fun _ _ => none)] := hw.sub [0, 1, 2, 3, 5, 4] rfl rfl
        refine px_callv (pr := [wd_Ker cs hk kr (fun _ => none) kf ka_45 (gKe pq pz_45 tq_45 rq_45), fm 13 (fTx cs tq_45 TR_45 TO_45 TF_45 TA_45), fm 8 (fPp cs pq PV), fo 13 (fRw cs rq_45 RR_45 RM_45 RW_45 RF_45 RA_45 RC_45) ip, nA cs (RM_45 ip) 36864 (RC_45 ip)]) (px_runA (As := [.int 0]) (rest := []) S (c_Raw_answer l D cs hx (RR_45 ip) (fun _ _ => none) (RM_45 ip) (some ((PV j2).r 1)) (RF_45 ip) (RA_45 ip) 0  (show 1 ≤ ((RF_45 ip) 7).toInt from by first | with_reducible rfl | with_reducible assumption | omega) _) hT (pr := [wd_Ker cs hk kr (fun _ => none) kf ka_45 (gKe pq pz_45 tq_45 rq_45), fm 13 (fTx cs tq_45 TR_45 TO_45 TF_45 TA_45), fm 8 (fPp cs pq PV), fo 13 (fRw cs rq_45 RR_45 RM_45 RW_45 RF_45 RA_45 RC_45) ip, nA cs (RM_45 ip) 36864 (RC_45 ip)]) (pcs := [wd_Raw cs hx (RR_45 ip) (fun k => if k = 2 then (RM_45 ip) else if k = 4 then (some ((PV j2).r 1)) else none) (RF_45 ip) (RA_45 ip) (fun _ _ => none)]) hw px_X.tt (C := "HomeSystem$RawProcess") (owner := "HomeSystem$AnyProcess") (x := ⟨"HomeSystem$AnyProcess", "answer", "(I)V"⟩) (px_recv hT hw 5 0 rfl rfl rfl) m8_72 m8_67 m8_69 m8_71 m8_70 m1_34 m8_68n ⟨by decide, by decide⟩ rfl q_Raw_answer ⟨Nat.le_of_ble_eq_true rfl, Nat.le_of_ble_eq_true rfl⟩ hl.1 rfl (Nat.le_of_ble_eq_true rfl) d_Ker_move_114 ⟨show ce_45 + 0 ≤ (5 * ndS 13 tq + 4 * ndS 13 rq + ndS 13 RM) from by first | with_reducible rfl | with_reducible assumption | omega, show sl_45 + 0 ≤ (9804 * ndS 13 tq + 342 * ndS 13 rq + 36864 * ndS 13 RM) from by first | with_reducible rfl | with_reducible assumption | omega⟩) hw hA (fun p7 H locs hp7 hw => ?_)
        obtain ⟨f5, a6, rfl, e9, e10, e11, e12, e13, e14⟩ := hp7
        replace e9 : (f5 7).toInt = ((RF_45 ip) 7).toInt - 1 := e9
        replace e10 : (f5 8).toInt = ((RF_45 ip) 8).toInt := e10
        replace e11 : (f5 10).toInt = ((RF_45 ip) 10).toInt := e11
        replace e12 : (f5 13).toInt = ((RF_45 ip) 13).toInt := e12
        replace e13 : (f5 14).toInt = 0 := e13
        replace e14 : (f5 11).toInt = ((RF_45 ip) 11).toInt := e14
        replace hw : pw D A s.heap H locs [wd_Ker cs hk kr (fun _ => none) kf ka_45 (gKe pq pz_45 tq_45 rq_45), fm 13 (fTx cs tq_45 TR_45 TO_45 TF_45 TA_45), fm 8 (fPp cs pq PV), fo 13 (fRw cs rq_45 RR_45 RM_45 RW_45 RF_45 RA_45 RC_45) ip, nA cs (RM_45 ip) 36864 (RC_45 ip), wd_Raw cs hx (RR_45 ip) (fun k => if k = 2 then (RM_45 ip) else if k = 4 then (some ((PV j2).r 1)) else none) f5 a6 (fun _ _ => none)] := hw
        have hw : pw D A s.heap _ _ [wd_Ker cs hk kr (fun _ => none) kf ka_45 (gKe pq pz_45 tq_45 rq_45), fm 13 (fTx cs tq_45 TR_45 TO_45 TF_45 TA_45), fm 8 (fPp cs pq PV), fo 13 (fRw cs rq_45 RR_45 RM_45 RW_45 RF_45 RA_45 RC_45) ip, wd_Raw cs hx (RR_45 ip) (fun k => if k = 2 then (RM_45 ip) else if k = 4 then (some ((PV j2).r 1)) else none) f5 a6 (fun _ _ => none), nA cs (RM_45 ip) 36864 (RC_45 ip)] := hw.sub [0, 1, 2, 3, 5, 4] rfl rfl
        have hw := frw_in0 (pr := [wd_Ker cs hk kr (fun _ => none) kf ka_45 (gKe pq pz_45 tq_45 rq_45), fm 13 (fTx cs tq_45 TR_45 TO_45 TF_45 TA_45), fm 8 (fPp cs pq PV)]) hw hip k45_3.1 hto2
        obtain ⟨RM15, hu_RM15⟩ : ∃ y : Nat → Option Nat, y = va_up RM_45 ip (RM_45 ip) := ⟨_, rfl⟩
        obtain ⟨RF16, hu_RF16⟩ : ∃ y : Nat → Nat → Int32, y = va_up RF_45 ip f5 := ⟨_, rfl⟩
        obtain ⟨RA17, hu_RA17⟩ : ∃ y : Nat → Nat → Nat → Int32, y = va_up RA_45 ip a6 := ⟨_, rfl⟩
        obtain ⟨RC18, hu_RC18⟩ : ∃ y : Nat → Nat → Int32, y = va_up RC_45 ip (RC_45 ip) := ⟨_, rfl⟩
        have hw : pw D A s.heap _ _ [wd_Ker cs hk kr (fun _ => none) kf ka_45 (gKe pq pz_45 tq_45 rq_45), fm 13 (fTx cs tq_45 TR_45 TO_45 TF_45 TA_45), fm 8 (fPp cs pq PV), fm 13 (fRw cs rq_45 RR_45 RM15 RW_45 RF16 RA17 RC18)] := (by rw [hu_RM15, hu_RF16, hu_RA17, hu_RC18]; exact hw)
        have hki : KnI pq PV pz_45 tq_45 rq_45 TO_45 TF_45 TA_45 RW_45 RF16 := (by rw [hu_RF16]; exact hki.upR (show RwN ip f5 from ⟨(show (0 ≤ (f5 7).toInt ∧ (f5 7).toInt ≤ 1600) ∧ (0 ≤ (f5 10).toInt ∧ (f5 10).toInt + (f5 7).toInt ≤ 1600) ∧ ((f5 14).toInt = 0 ∨ (f5 14).toInt = 1) ∧ ((f5 14).toInt = 1 → 1 ≤ (f5 7).toInt) from by first | with_reducible rfl | with_reducible assumption | omega), (show ((f5 8).toInt) = ((ip : Nat) : Int) from by first | with_reducible rfl | with_reducible assumption | omega), (show 0 ≤ (f5 13).toInt ∧ (f5 13).toInt ≤ 3 ∧ ((f5 13).toInt = 0 ∨ 3 * ((ip : Nat) : Int) + (f5 13).toInt ≤ 12) from by first | with_reducible rfl | with_reducible assumption | omega)⟩))
        have hrm : RmI rq_45 RM15 := (by rw [hu_RM15]; exact hrm.up k45_3.1)
        have hnd_RM15 := ndS_up 13 RM_45 ip (RM_45 ip) hip; rw [← hu_RM15] at hnd_RM15
        have hz14_RF16 : (RF16 ip 14).toInt = (f5 14).toInt := (by rw [hu_RF16, va_up_s]; try rfl)
        have hw : pw D A s.heap _ _ [wd_Ker cs hk kr (fun _ => none) kf ka_45 (gKe pq pz_45 tq_45 rq_45), fm 13 (fTx cs tq_45 TR_45 TO_45 TF_45 TA_45), fm 13 (fRw cs rq_45 RR_45 RM15 RW_45 RF16 RA17 RC18), fm 8 (fPp cs pq PV)] := hw.sub [0, 1, 3, 2] rfl rfl
        exact pg_vret S hr hlk hAe hw (show ce_45 ≤ (5 * ndS 13 tq + 4 * ndS 13 rq + ndS 13 RM) from by first | exact oz_dca5c4e7e4 k45_10 | omega) (show sl_45 ≤ (9804 * ndS 13 tq + 342 * ndS 13 rq + 36864 * ndS 13 RM) from by first | exact oz_f7eb847e67 k45_11 | omega) (⟨pz_45, tq_45, rq_45, ka_45, TR_45, TO_45, TF_45, TA_45, RR_45, RM15, RW_45, RF16, RA17, RC18, rfl, (show CuR pq PV rq_45 RW_45 ip hx from k45_3), (show KnI pq PV pz_45 tq_45 rq_45 TO_45 TF_45 TA_45 RW_45 RF16 from hki), (show RoI ka_45 from hro), (show RmI rq_45 RM15 from hrm), (show ce_45 + (5 * ndS 13 tq_45 + 4 * ndS 13 rq_45 + ndS 13 RM15) ≤ 5 * ndS 13 tq + 4 * ndS 13 rq + ndS 13 RM from by first | with_reducible rfl | with_reducible assumption | omega), (show sl_45 + (9804 * ndS 13 tq_45 + 342 * ndS 13 rq_45 + 36864 * ndS 13 RM15) ≤ 9804 * ndS 13 tq + 342 * ndS 13 rq + 36864 * ndS 13 RM from by first | with_reducible rfl | with_reducible assumption | omega)⟩) d_Ker_move_117
      · have nc3 : ¬ x45_3.toInt ≤ x45_4.toInt := mt (i_le (x := x45_3) (y := x45_4)).mpr c3
        refine lv_iload S.x S.b d_Ker_move_51 (lv_at hl 4 rfl) ?_
        refine lv_bipush (v := 16) S.x S.b d_Ker_move_53 (by decide) ?_
        refine lv_icmp_ge (tgt := 112) S.x S.b d_Ker_move_55 (by decide) (fun c19 => ?_) (fun c19 => ?_)
        · have nc19 : (16 : Int) ≤ x45_4.toInt := (i_le (x := 16) (y := x45_4)).mp c19
          refine lv_aload_n S.x S.b d_Ker_move_112 rfl (lv_at hl 1 rfl) ?_
          refine lv_iconst (v := 0) S.x S.b d_Ker_move_113 (by decide) ?_
          have hw : pw D A s.heap _ _ [wd_Ker cs hk kr (fun _ => none) kf ka_45 (gKe pq pz_45 tq_45 rq_45), fm 13 (fTx cs tq_45 TR_45 TO_45 TF_45 TA_45), fm 8 (fPp cs pq PV), fm 13 (fRw cs rq_45 RR_45 RM_45 RW_45 RF_45 RA_45 RC_45)] := hw.sub [0, 1, 3, 2] rfl rfl
          have hw : pw D A s.heap _ _ [wd_Ker cs hk kr (fun _ => none) kf ka_45 (gKe pq pz_45 tq_45 rq_45), fm 13 (fTx cs tq_45 TR_45 TO_45 TF_45 TA_45), fm 8 (fPp cs pq PV), fo 13 (fRw cs rq_45 RR_45 RM_45 RW_45 RF_45 RA_45 RC_45) ip, wd_Raw cs hx (RR_45 ip) (fun k => if k = 2 then (RM_45 ip) else if k = 4 then (some ((PV j2).r 1)) else none) (RF_45 ip) (RA_45 ip) (fun _ _ => none), nA cs (RM_45 ip) 36864 (RC_45 ip)] := frw_out (pr := [wd_Ker cs hk kr (fun _ => none) kf ka_45 (gKe pq pz_45 tq_45 rq_45), fm 13 (fTx cs tq_45 TR_45 TO_45 TF_45 TA_45), fm 8 (fPp cs pq PV)]) hw hip k45_3.1 hto2
          have hng20 := ndS_ge 13 RM_45 ip hip
          have hrn20 : RwN ip (RF_45 ip) := hki.2.2.1 ip hip _ k45_3.1
          have hro20 := hrn20.1
          unfold RwO at hro20
          have hid20 := hrn20.2.1
          have hch20 := hrn20.2.2
          unfold KcI at hch20
          have hw : pw D A s.heap _ _ [wd_Ker cs hk kr (fun _ => none) kf ka_45 (gKe pq pz_45 tq_45 rq_45), fm 13 (fTx cs tq_45 TR_45 TO_45 TF_45 TA_45), fm 8 (fPp cs pq PV), fo 13 (fRw cs rq_45 RR_45 RM_45 RW_45 RF_45 RA_45 RC_45) ip, nA cs (RM_45 ip) 36864 (RC_45 ip), wd_Raw cs hx (RR_45 ip) (fun k => if k = 2 then (RM_45 ip) else if k = 4 then (some ((PV j2).r 1)) else none) (RF_45 ip) (RA_45 ip) (fun _ _ => none)] := hw.sub [0, 1, 2, 3, 5, 4] rfl rfl
          refine px_callv (pr := [wd_Ker cs hk kr (fun _ => none) kf ka_45 (gKe pq pz_45 tq_45 rq_45), fm 13 (fTx cs tq_45 TR_45 TO_45 TF_45 TA_45), fm 8 (fPp cs pq PV), fo 13 (fRw cs rq_45 RR_45 RM_45 RW_45 RF_45 RA_45 RC_45) ip, nA cs (RM_45 ip) 36864 (RC_45 ip)]) (px_runA (As := [.int 0]) (rest := []) S (c_Raw_answer l D cs hx (RR_45 ip) (fun _ _ => none) (RM_45 ip) (some ((PV j2).r 1)) (RF_45 ip) (RA_45 ip) 0  (show 1 ≤ ((RF_45 ip) 7).toInt from by first | with_reducible rfl | with_reducible assumption | omega) _) hT (pr := [wd_Ker cs hk kr (fun _ => none) kf ka_45 (gKe pq pz_45 tq_45 rq_45), fm 13 (fTx cs tq_45 TR_45 TO_45 TF_45 TA_45), fm 8 (fPp cs pq PV), fo 13 (fRw cs rq_45 RR_45 RM_45 RW_45 RF_45 RA_45 RC_45) ip, nA cs (RM_45 ip) 36864 (RC_45 ip)]) (pcs := [wd_Raw cs hx (RR_45 ip) (fun k => if k = 2 then (RM_45 ip) else if k = 4 then (some ((PV j2).r 1)) else none) (RF_45 ip) (RA_45 ip) (fun _ _ => none)]) hw px_X.tt (C := "HomeSystem$RawProcess") (owner := "HomeSystem$AnyProcess") (x := ⟨"HomeSystem$AnyProcess", "answer", "(I)V"⟩) (px_recv hT hw 5 0 rfl rfl rfl) m8_72 m8_67 m8_69 m8_71 m8_70 m1_34 m8_68n ⟨by decide, by decide⟩ rfl q_Raw_answer ⟨Nat.le_of_ble_eq_true rfl, Nat.le_of_ble_eq_true rfl⟩ hl.1 rfl (Nat.le_of_ble_eq_true rfl) d_Ker_move_114 ⟨show ce_45 + 0 ≤ (5 * ndS 13 tq + 4 * ndS 13 rq + ndS 13 RM) from by first | with_reducible rfl | with_reducible assumption | omega, show sl_45 + 0 ≤ (9804 * ndS 13 tq + 342 * ndS 13 rq + 36864 * ndS 13 RM) from by first | with_reducible rfl | with_reducible assumption | omega⟩) hw hA (fun p23 H locs hp23 hw => ?_)
          obtain ⟨f21, a22, rfl, e25, e26, e27, e28, e29, e30⟩ := hp23
          replace e25 : (f21 7).toInt = ((RF_45 ip) 7).toInt - 1 := e25
          replace e26 : (f21 8).toInt = ((RF_45 ip) 8).toInt := e26
          replace e27 : (f21 10).toInt = ((RF_45 ip) 10).toInt := e27
          replace e28 : (f21 13).toInt = ((RF_45 ip) 13).toInt := e28
          replace e29 : (f21 14).toInt = 0 := e29
          replace e30 : (f21 11).toInt = ((RF_45 ip) 11).toInt := e30
          replace hw : pw D A s.heap H locs [wd_Ker cs hk kr (fun _ => none) kf ka_45 (gKe pq pz_45 tq_45 rq_45), fm 13 (fTx cs tq_45 TR_45 TO_45 TF_45 TA_45), fm 8 (fPp cs pq PV), fo 13 (fRw cs rq_45 RR_45 RM_45 RW_45 RF_45 RA_45 RC_45) ip, nA cs (RM_45 ip) 36864 (RC_45 ip), wd_Raw cs hx (RR_45 ip) (fun k => if k = 2 then (RM_45 ip) else if k = 4 then (some ((PV j2).r 1)) else none) f21 a22 (fun _ _ => none)] := hw
          have hw : pw D A s.heap _ _ [wd_Ker cs hk kr (fun _ => none) kf ka_45 (gKe pq pz_45 tq_45 rq_45), fm 13 (fTx cs tq_45 TR_45 TO_45 TF_45 TA_45), fm 8 (fPp cs pq PV), fo 13 (fRw cs rq_45 RR_45 RM_45 RW_45 RF_45 RA_45 RC_45) ip, wd_Raw cs hx (RR_45 ip) (fun k => if k = 2 then (RM_45 ip) else if k = 4 then (some ((PV j2).r 1)) else none) f21 a22 (fun _ _ => none), nA cs (RM_45 ip) 36864 (RC_45 ip)] := hw.sub [0, 1, 2, 3, 5, 4] rfl rfl
          have hw := frw_in0 (pr := [wd_Ker cs hk kr (fun _ => none) kf ka_45 (gKe pq pz_45 tq_45 rq_45), fm 13 (fTx cs tq_45 TR_45 TO_45 TF_45 TA_45), fm 8 (fPp cs pq PV)]) hw hip k45_3.1 hto2
          obtain ⟨RM31, hu_RM31⟩ : ∃ y : Nat → Option Nat, y = va_up RM_45 ip (RM_45 ip) := ⟨_, rfl⟩
          obtain ⟨RF32, hu_RF32⟩ : ∃ y : Nat → Nat → Int32, y = va_up RF_45 ip f21 := ⟨_, rfl⟩
          obtain ⟨RA33, hu_RA33⟩ : ∃ y : Nat → Nat → Nat → Int32, y = va_up RA_45 ip a22 := ⟨_, rfl⟩
          obtain ⟨RC34, hu_RC34⟩ : ∃ y : Nat → Nat → Int32, y = va_up RC_45 ip (RC_45 ip) := ⟨_, rfl⟩
          have hw : pw D A s.heap _ _ [wd_Ker cs hk kr (fun _ => none) kf ka_45 (gKe pq pz_45 tq_45 rq_45), fm 13 (fTx cs tq_45 TR_45 TO_45 TF_45 TA_45), fm 8 (fPp cs pq PV), fm 13 (fRw cs rq_45 RR_45 RM31 RW_45 RF32 RA33 RC34)] := (by rw [hu_RM31, hu_RF32, hu_RA33, hu_RC34]; exact hw)
          have hki : KnI pq PV pz_45 tq_45 rq_45 TO_45 TF_45 TA_45 RW_45 RF32 := (by rw [hu_RF32]; exact hki.upR (show RwN ip f21 from ⟨(show (0 ≤ (f21 7).toInt ∧ (f21 7).toInt ≤ 1600) ∧ (0 ≤ (f21 10).toInt ∧ (f21 10).toInt + (f21 7).toInt ≤ 1600) ∧ ((f21 14).toInt = 0 ∨ (f21 14).toInt = 1) ∧ ((f21 14).toInt = 1 → 1 ≤ (f21 7).toInt) from by first | with_reducible rfl | with_reducible assumption | omega), (show ((f21 8).toInt) = ((ip : Nat) : Int) from by first | with_reducible rfl | with_reducible assumption | omega), (show 0 ≤ (f21 13).toInt ∧ (f21 13).toInt ≤ 3 ∧ ((f21 13).toInt = 0 ∨ 3 * ((ip : Nat) : Int) + (f21 13).toInt ≤ 12) from by first | with_reducible rfl | with_reducible assumption | omega)⟩))
          have hrm : RmI rq_45 RM31 := (by rw [hu_RM31]; exact hrm.up k45_3.1)
          have hnd_RM31 := ndS_up 13 RM_45 ip (RM_45 ip) hip; rw [← hu_RM31] at hnd_RM31
          have hz14_RF32 : (RF32 ip 14).toInt = (f21 14).toInt := (by rw [hu_RF32, va_up_s]; try rfl)
          have hw : pw D A s.heap _ _ [wd_Ker cs hk kr (fun _ => none) kf ka_45 (gKe pq pz_45 tq_45 rq_45), fm 13 (fTx cs tq_45 TR_45 TO_45 TF_45 TA_45), fm 13 (fRw cs rq_45 RR_45 RM31 RW_45 RF32 RA33 RC34), fm 8 (fPp cs pq PV)] := hw.sub [0, 1, 3, 2] rfl rfl
          exact pg_vret S hr hlk hAe hw (show ce_45 ≤ (5 * ndS 13 tq + 4 * ndS 13 rq + ndS 13 RM) from by first | exact oz_dca5c4e7e4 k45_10 | omega) (show sl_45 ≤ (9804 * ndS 13 tq + 342 * ndS 13 rq + 36864 * ndS 13 RM) from by first | exact oz_f7eb847e67 k45_11 | omega) (⟨pz_45, tq_45, rq_45, ka_45, TR_45, TO_45, TF_45, TA_45, RR_45, RM31, RW_45, RF32, RA33, RC34, rfl, (show CuR pq PV rq_45 RW_45 ip hx from k45_3), (show KnI pq PV pz_45 tq_45 rq_45 TO_45 TF_45 TA_45 RW_45 RF32 from hki), (show RoI ka_45 from hro), (show RmI rq_45 RM31 from hrm), (show ce_45 + (5 * ndS 13 tq_45 + 4 * ndS 13 rq_45 + ndS 13 RM31) ≤ 5 * ndS 13 tq + 4 * ndS 13 rq + ndS 13 RM from by first | with_reducible rfl | with_reducible assumption | omega), (show sl_45 + (9804 * ndS 13 tq_45 + 342 * ndS 13 rq_45 + 36864 * ndS 13 RM31) ≤ 9804 * ndS 13 tq + 342 * ndS 13 rq + 36864 * ndS 13 RM from by first | with_reducible rfl | with_reducible assumption | omega)⟩) d_Ker_move_117
        · have nc19 : ¬ (16 : Int) ≤ x45_4.toInt := mt (i_le (x := 16) (y := x45_4)).mpr c19
          refine lv_aload_n S.x S.b d_Ker_move_58 rfl (lv_at hl 1 rfl) ?_
          have hw : pw D A s.heap _ _ [wd_Ker cs hk kr (fun _ => none) kf ka_45 (gKe pq pz_45 tq_45 rq_45), fm 13 (fTx cs tq_45 TR_45 TO_45 TF_45 TA_45), fm 8 (fPp cs pq PV), fm 13 (fRw cs rq_45 RR_45 RM_45 RW_45 RF_45 RA_45 RC_45)] := hw.sub [0, 1, 3, 2] rfl rfl
          have hw : pw D A s.heap _ _ [wd_Ker cs hk kr (fun _ => none) kf ka_45 (gKe pq pz_45 tq_45 rq_45), fm 13 (fTx cs tq_45 TR_45 TO_45 TF_45 TA_45), fm 8 (fPp cs pq PV), fo 13 (fRw cs rq_45 RR_45 RM_45 RW_45 RF_45 RA_45 RC_45) ip, wd_Raw cs hx (RR_45 ip) (fun k => if k = 2 then (RM_45 ip) else if k = 4 then (some ((PV j2).r 1)) else none) (RF_45 ip) (RA_45 ip) (fun _ _ => none), nA cs (RM_45 ip) 36864 (RC_45 ip)] := frw_out (pr := [wd_Ker cs hk kr (fun _ => none) kf ka_45 (gKe pq pz_45 tq_45 rq_45), fm 13 (fTx cs tq_45 TR_45 TO_45 TF_45 TA_45), fm 8 (fPp cs pq PV)]) hw hip k45_3.1 hto2
          have hng35 := ndS_ge 13 RM_45 ip hip
          have hrn35 : RwN ip (RF_45 ip) := hki.2.2.1 ip hip _ k45_3.1
          have hro35 := hrn35.1
          unfold RwO at hro35
          have hid35 := hrn35.2.1
          have hch35 := hrn35.2.2
          unfold KcI at hch35
          refine px_get S k_Raw hT hw 4 0 15 (v := .int ((RF_45 ip) 15)) rfl rfl rfl (by decide) m6_158 d_Ker_move_59 ?_
          refine lv_bipush (v := 7) S.x S.b d_Ker_move_62 (by decide) ?_
          refine lv_icmp_ne (tgt := 88) S.x S.b d_Ker_move_64 (by decide) (fun c36 => ?_) (fun c36 => ?_)
          · have nc36 : ¬ ((RF_45 ip) 15).toInt = (7 : Int) := mt (i_eq (x := ((RF_45 ip) 15)) (y := 7)).mpr c36
            refine lv_aload_n S.x S.b d_Ker_move_88 rfl (lv_at hl 0 rfl) ?_
            refine px_get S k_Ker hT hw 0 0 1 (v := .ref (kr 1)) rfl rfl rfl (by decide) m2_220 d_Ker_move_89 ?_
            refine lv_bipush (v := 16) S.x S.b d_Ker_move_92 (by decide) ?_
            refine lv_iload_n S.x S.b d_Ker_move_94 rfl (lv_at hl 2 rfl) ?_
            refine lv_imul S.x S.b d_Ker_move_95 ?_
            refine lv_topi (fun z37 ez37 => ?_)
            have lz37 := Int32.le_toInt z37
            have uz37 := Int32.toInt_lt z37
            have tz37 : -2147483648 ≤ 16 * p0.toInt → 16 * p0.toInt < 2147483648 → z37.toInt = 16 * p0.toInt := by rw [ez37]; exact i_mulc 16 p0 (by decide)
            try replace tz37 : z37.toInt = 16 * p0.toInt := by omega
            refine lv_iload S.x S.b d_Ker_move_96 (lv_at hl 4 rfl) ?_
            refine lv_iadd S.x S.b d_Ker_move_98 ?_
            refine lv_topi (fun z38 ez38 => ?_)
            have tz38 : z38.toInt = (z37.toInt + x45_4.toInt + 2147483648) % 4294967296 - 2147483648 := by rw [ez38]; exact i_add z37 x45_4
            have lz38 := Int32.le_toInt z38
            have uz38 := Int32.toInt_lt z38
            try replace tz38 : z38.toInt = z37.toInt + x45_4.toInt := by omega
            refine lv_aload_n S.x S.b d_Ker_move_99 rfl (lv_at hl 1 rfl) ?_
            refine lv_iload S.x S.b d_Ker_move_100 (lv_at hl 4 rfl) ?_
            have hw : pw D A s.heap _ _ [wd_Ker cs hk kr (fun _ => none) kf ka_45 (gKe pq pz_45 tq_45 rq_45), fm 13 (fTx cs tq_45 TR_45 TO_45 TF_45 TA_45), fo 13 (fRw cs rq_45 RR_45 RM_45 RW_45 RF_45 RA_45 RC_45) ip, wd_Raw cs hx (RR_45 ip) (fun k => if k = 2 then (RM_45 ip) else if k = 4 then (some ((PV j2).r 1)) else none) (RF_45 ip) (RA_45 ip) (fun _ _ => none), nA cs (RM_45 ip) 36864 (RC_45 ip), fm 8 (fPp cs pq PV)] := hw.sub [0, 1, 3, 4, 5, 2] rfl rfl
            have hw : pw D A s.heap _ _ [wd_Ker cs hk kr (fun _ => none) kf ka_45 (gKe pq pz_45 tq_45 rq_45), fm 13 (fTx cs tq_45 TR_45 TO_45 TF_45 TA_45), fo 13 (fRw cs rq_45 RR_45 RM_45 RW_45 RF_45 RA_45 RC_45) ip, wd_Raw cs hx (RR_45 ip) (fun k => if k = 2 then (RM_45 ip) else if k = 4 then (some ((PV j2).r 1)) else none) (RF_45 ip) (RA_45 ip) (fun _ _ => none), nA cs (RM_45 ip) 36864 (RC_45 ip), fo 8 (fPp cs pq PV) j2, wd_Prg cs hp2 (PV j2).r (fun k => if k = 2 then (PV j2).o else none) (PV j2).f (fun _ _ => 0) (fun _ _ => none), nA cs (PV j2).o (PV j2).fn (PV j2).fd, [(((PV j2).r 1), .inl (cs 0, (PV j2).cn, .inl (PV j2).cd))]] := fpp_out (pr := [wd_Ker cs hk kr (fun _ => none) kf ka_45 (gKe pq pz_45 tq_45 rq_45), fm 13 (fTx cs tq_45 TR_45 TO_45 TF_45 TA_45), fo 13 (fRw cs rq_45 RR_45 RM_45 RW_45 RF_45 RA_45 RC_45) ip, wd_Raw cs hx (RR_45 ip) (fun k => if k = 2 then (RM_45 ip) else if k = 4 then (some ((PV j2).r 1)) else none) (RF_45 ip) (RA_45 ip) (fun _ _ => none), nA cs (RM_45 ip) 36864 (RC_45 ip)]) hw hj2 hjq2
            have hpv39 := hki.1 j2 hj2 _ hjq2
            have hpn39 := hpv39.1
            have hpz39 := hpv39.2.1
            have hw : pw D A s.heap _ _ [wd_Ker cs hk kr (fun _ => none) kf ka_45 (gKe pq pz_45 tq_45 rq_45), fm 13 (fTx cs tq_45 TR_45 TO_45 TF_45 TA_45), fo 13 (fRw cs rq_45 RR_45 RM_45 RW_45 RF_45 RA_45 RC_45) ip, fo 8 (fPp cs pq PV) j2, wd_Prg cs hp2 (PV j2).r (fun k => if k = 2 then (PV j2).o else none) (PV j2).f (fun _ _ => 0) (fun _ _ => none), nA cs (PV j2).o (PV j2).fn (PV j2).fd, wd_Raw cs hx (RR_45 ip) (fun k => if k = 2 then (RM_45 ip) else if k = 4 then (some ((PV j2).r 1)) else none) (RF_45 ip) (RA_45 ip) (fun _ _ => none), nA cs (RM_45 ip) 36864 (RC_45 ip), [(((PV j2).r 1), .inl (cs 0, (PV j2).cn, .inl (PV j2).cd))]] := hw.sub [0, 1, 2, 5, 6, 7, 3, 4, 8] rfl rfl
            refine px_calli (pr := [wd_Ker cs hk kr (fun _ => none) kf ka_45 (gKe pq pz_45 tq_45 rq_45), fm 13 (fTx cs tq_45 TR_45 TO_45 TF_45 TA_45), fo 13 (fRw cs rq_45 RR_45 RM_45 RW_45 RF_45 RA_45 RC_45) ip, fo 8 (fPp cs pq PV) j2, wd_Prg cs hp2 (PV j2).r (fun k => if k = 2 then (PV j2).o else none) (PV j2).f (fun _ _ => 0) (fun _ _ => none), nA cs (PV j2).o (PV j2).fn (PV j2).fd]) (px_runA (As := [.int x45_4]) (rest := [.int z38, .ref (kr 1)]) S (c_Raw_wordToMove l D cs hx (RR_45 ip) (fun _ _ => none) (some ((PV j2).r 1)) (PV j2).cn (PV j2).cd (RF_45 ip) (RA_45 ip) (RM_45 ip) (RC_45 ip) x45_4  (show (PV j2).cn ≤ 1000000 from by first | with_reducible rfl | with_reducible assumption | omega) _) hT (pr := [wd_Ker cs hk kr (fun _ => none) kf ka_45 (gKe pq pz_45 tq_45 rq_45), fm 13 (fTx cs tq_45 TR_45 TO_45 TF_45 TA_45), fo 13 (fRw cs rq_45 RR_45 RM_45 RW_45 RF_45 RA_45 RC_45) ip, fo 8 (fPp cs pq PV) j2, wd_Prg cs hp2 (PV j2).r (fun k => if k = 2 then (PV j2).o else none) (PV j2).f (fun _ _ => 0) (fun _ _ => none), nA cs (PV j2).o (PV j2).fn (PV j2).fd]) (pcs := [wd_Raw cs hx (RR_45 ip) (fun k => if k = 2 then (RM_45 ip) else if k = 4 then (some ((PV j2).r 1)) else none) (RF_45 ip) (RA_45 ip) (fun _ _ => none), nA cs (RM_45 ip) 36864 (RC_45 ip), [(((PV j2).r 1), .inl (cs 0, (PV j2).cn, .inl (PV j2).cd))]]) hw px_X.tt (C := "HomeSystem$RawProcess") (owner := "HomeSystem$AnyProcess") (x := ⟨"HomeSystem$AnyProcess", "wordToMove", "(I)I"⟩) (px_recv hT hw 6 0 rfl rfl rfl) m8_135 m8_130 m8_132 m8_134 m8_133 m1_34 m8_131n ⟨by decide, by decide⟩ rfl q_Raw_wordToMove ⟨Nat.le_of_ble_eq_true rfl, Nat.le_of_ble_eq_true rfl⟩ hl.1 rfl (Nat.le_of_ble_eq_true rfl) d_Ker_move_102 ⟨show ce_45 + 0 ≤ (5 * ndS 13 tq + 4 * ndS 13 rq + ndS 13 RM) from by first | with_reducible rfl | with_reducible assumption | omega, show sl_45 + 0 ≤ (9804 * ndS 13 tq + 342 * ndS 13 rq + 36864 * ndS 13 RM) from by first | with_reducible rfl | with_reducible assumption | omega⟩) hw hA (fun v41 p40 H locs hp40 hw => ?_)
            subst hp40
            replace hw : pw D A s.heap H locs [wd_Ker cs hk kr (fun _ => none) kf ka_45 (gKe pq pz_45 tq_45 rq_45), fm 13 (fTx cs tq_45 TR_45 TO_45 TF_45 TA_45), fo 13 (fRw cs rq_45 RR_45 RM_45 RW_45 RF_45 RA_45 RC_45) ip, fo 8 (fPp cs pq PV) j2, wd_Prg cs hp2 (PV j2).r (fun k => if k = 2 then (PV j2).o else none) (PV j2).f (fun _ _ => 0) (fun _ _ => none), nA cs (PV j2).o (PV j2).fn (PV j2).fd, wd_Raw cs hx (RR_45 ip) (fun k => if k = 2 then (RM_45 ip) else if k = 4 then (some ((PV j2).r 1)) else none) (RF_45 ip) (RA_45 ip) (fun _ _ => none), nA cs (RM_45 ip) 36864 (RC_45 ip), [(((PV j2).r 1), .inl (cs 0, (PV j2).cn, .inl (PV j2).cd))]] := hw
            have lv41 := Int32.le_toInt v41
            have uv41 := Int32.toInt_lt v41
            refine px_iast S hT hw 0 2 (n := 128) (f := (ka_45 1)) (x := z38) (y := v41) rfl (ga_Ker_1 _ _ _ _ _ _ _) (vp_in_iff.mpr (by constructor <;> omega)) d_Ker_move_105 (w' := wd_Ker cs hk kr (fun _ => none) kf (va_up ka_45 1 (upd (ka_45 1) z38.toNatClampNeg v41)) (gKe pq pz_45 tq_45 rq_45)) (ps' := [wd_Ker cs hk kr (fun _ => none) kf (va_up ka_45 1 (upd (ka_45 1) z38.toNatClampNeg v41)) (gKe pq pz_45 tq_45 rq_45), fm 13 (fTx cs tq_45 TR_45 TO_45 TF_45 TA_45), fo 13 (fRw cs rq_45 RR_45 RM_45 RW_45 RF_45 RA_45 RC_45) ip, fo 8 (fPp cs pq PV) j2, wd_Prg cs hp2 (PV j2).r (fun k => if k = 2 then (PV j2).o else none) (PV j2).f (fun _ _ => 0) (fun _ _ => none), nA cs (PV j2).o (PV j2).fn (PV j2).fd, wd_Raw cs hx (RR_45 ip) (fun k => if k = 2 then (RM_45 ip) else if k = 4 then (some ((PV j2).r 1)) else none) (RF_45 ip) (RA_45 ip) (fun _ _ => none), nA cs (RM_45 ip) 36864 (RC_45 ip), [(((PV j2).r 1), .inl (cs 0, (PV j2).cn, .inl (PV j2).cd))]]) (sa_Ker_1 _ _ _ _ _ _ _ _) rfl (fun H locs hw => ?_)
            have hro : RoI (va_up ka_45 1 (upd (ka_45 1) z38.toNatClampNeg v41)) := hro.oth (by decide) (by decide)
            obtain ⟨z42, ez42⟩ : ∃ y : Int32, y = x45_4 + 1 := ⟨_, rfl⟩
            have tz42 : z42.toInt = (x45_4.toInt + 1 + 2147483648) % 4294967296 - 2147483648 := by rw [ez42]; exact i_add x45_4 1
            have lz42 := Int32.le_toInt z42
            have uz42 := Int32.toInt_lt z42
            try replace tz42 : z42.toInt = x45_4.toInt + 1 := by omega
            refine lv_iinc (v := z42) (lv' := [(4, .int z42), (0, .ref hk), (1, .ref hx), (2, .int p0), (3, .int x45_3)]) S.x S.b d_Ker_move_106 hl (k := 4) rfl (by rw [ez42]; rfl) (by decide) rfl (fun ls hl => ?_)
            refine lv_goto (tgt := 45) S.x S.b d_Ker_move_109 (by decide) ?_
            have hw : pw D A s.heap _ _ [wd_Ker cs hk kr (fun _ => none) kf (va_up ka_45 1 (upd (ka_45 1) z38.toNatClampNeg v41)) (gKe pq pz_45 tq_45 rq_45), fm 13 (fTx cs tq_45 TR_45 TO_45 TF_45 TA_45), fo 13 (fRw cs rq_45 RR_45 RM_45 RW_45 RF_45 RA_45 RC_45) ip, wd_Raw cs hx (RR_45 ip) (fun k => if k = 2 then (RM_45 ip) else if k = 4 then (some ((PV j2).r 1)) else none) (RF_45 ip) (RA_45 ip) (fun _ _ => none), nA cs (RM_45 ip) 36864 (RC_45 ip), fo 8 (fPp cs pq PV) j2, wd_Prg cs hp2 (PV j2).r (fun k => if k = 2 then (PV j2).o else none) (PV j2).f (fun _ _ => 0) (fun _ _ => none), nA cs (PV j2).o (PV j2).fn (PV j2).fd, [(((PV j2).r 1), .inl (cs 0, (PV j2).cn, .inl (PV j2).cd))]] := hw.sub [0, 1, 2, 6, 7, 3, 4, 5, 8] rfl rfl
            have hw : pw D A s.heap _ _ [wd_Ker cs hk kr (fun _ => none) kf (va_up ka_45 1 (upd (ka_45 1) z38.toNatClampNeg v41)) (gKe pq pz_45 tq_45 rq_45), fm 13 (fTx cs tq_45 TR_45 TO_45 TF_45 TA_45), fo 13 (fRw cs rq_45 RR_45 RM_45 RW_45 RF_45 RA_45 RC_45) ip, wd_Raw cs hx (RR_45 ip) (fun k => if k = 2 then (RM_45 ip) else if k = 4 then (some ((PV j2).r 1)) else none) (RF_45 ip) (RA_45 ip) (fun _ _ => none), nA cs (RM_45 ip) 36864 (RC_45 ip), fm 8 (fPp cs pq PV)] := fpp_back (pr := [wd_Ker cs hk kr (fun _ => none) kf (va_up ka_45 1 (upd (ka_45 1) z38.toNatClampNeg v41)) (gKe pq pz_45 tq_45 rq_45), fm 13 (fTx cs tq_45 TR_45 TO_45 TF_45 TA_45), fo 13 (fRw cs rq_45 RR_45 RM_45 RW_45 RF_45 RA_45 RC_45) ip, wd_Raw cs hx (RR_45 ip) (fun k => if k = 2 then (RM_45 ip) else if k = 4 then (some ((PV j2).r 1)) else none) (RF_45 ip) (RA_45 ip) (fun _ _ => none), nA cs (RM_45 ip) 36864 (RC_45 ip)]) hw hj2 hjq2
            have hw : pw D A s.heap _ _ [wd_Ker cs hk kr (fun _ => none) kf (va_up ka_45 1 (upd (ka_45 1) z38.toNatClampNeg v41)) (gKe pq pz_45 tq_45 rq_45), fm 13 (fTx cs tq_45 TR_45 TO_45 TF_45 TA_45), fm 8 (fPp cs pq PV), fo 13 (fRw cs rq_45 RR_45 RM_45 RW_45 RF_45 RA_45 RC_45) ip, wd_Raw cs hx (RR_45 ip) (fun k => if k = 2 then (RM_45 ip) else if k = 4 then (some ((PV j2).r 1)) else none) (RF_45 ip) (RA_45 ip) (fun _ _ => none), nA cs (RM_45 ip) 36864 (RC_45 ip)] := hw.sub [0, 1, 5, 2, 3, 4] rfl rfl
            have hw : pw D A s.heap _ _ [wd_Ker cs hk kr (fun _ => none) kf (va_up ka_45 1 (upd (ka_45 1) z38.toNatClampNeg v41)) (gKe pq pz_45 tq_45 rq_45), fm 13 (fTx cs tq_45 TR_45 TO_45 TF_45 TA_45), fm 8 (fPp cs pq PV), fm 13 (fRw cs rq_45 RR_45 RM_45 RW_45 RF_45 RA_45 RC_45)] := frw_back (pr := [wd_Ker cs hk kr (fun _ => none) kf (va_up ka_45 1 (upd (ka_45 1) z38.toNatClampNeg v41)) (gKe pq pz_45 tq_45 rq_45), fm 13 (fTx cs tq_45 TR_45 TO_45 TF_45 TA_45), fm 8 (fPp cs pq PV)]) hw hip k45_3.1 hto2
            have hw : pw D A s.heap _ _ [wd_Ker cs hk kr (fun _ => none) kf (va_up ka_45 1 (upd (ka_45 1) z38.toNatClampNeg v41)) (gKe pq pz_45 tq_45 rq_45), fm 13 (fTx cs tq_45 TR_45 TO_45 TF_45 TA_45), fm 13 (fRw cs rq_45 RR_45 RM_45 RW_45 RF_45 RA_45 RC_45), fm 8 (fPp cs pq PV)] := hw.sub [0, 1, 3, 2] rfl rfl
            exact ih45 ce_45 sl_45 pz_45 tq_45 rq_45 (va_up ka_45 1 (upd (ka_45 1) z38.toNatClampNeg v41)) TR_45 TO_45 TF_45 TA_45 RR_45 RM_45 RW_45 RF_45 RA_45 RC_45 x45_3 z42 _ _ ls (show KnI pq PV pz_45 tq_45 rq_45 TO_45 TF_45 TA_45 RW_45 RF_45 from hki) (show RoI (va_up ka_45 1 (upd (ka_45 1) z38.toNatClampNeg v41)) from hro) (show RmI rq_45 RM_45 from hrm) (show CuR pq PV rq_45 RW_45 ip hx from k45_3) (show 0 ≤ z42.toInt from by first | exact oz_ae613611c0 tz42 k45_4 | omega) (show z42.toInt ≤ 16 from by first | exact oz_46c819e4be tz42 nc19 | omega) (show x45_3.toInt ≤ 16 from by first | exact k45_6 | omega) (show 0 ≤ p0.toInt from by first | exact k45_7 | omega) (show p0.toInt ≤ 7 from by first | exact k45_8 | omega) (show (RF_45 ip 14).toInt = 1 from by first | exact k45_9 | omega) (show ce_45 + (5 * ndS 13 tq_45 + 4 * ndS 13 rq_45 + ndS 13 RM_45) ≤ 5 * ndS 13 tq + 4 * ndS 13 rq + ndS 13 RM from by first | exact k45_10 | omega) (show sl_45 + (9804 * ndS 13 tq_45 + 342 * ndS 13 rq_45 + 36864 * ndS 13 RM_45) ≤ 9804 * ndS 13 tq + 342 * ndS 13 rq + 36864 * ndS 13 RM from by first | exact k45_11 | omega) (show x45_3.toInt - z42.toInt + 4294967297 < (n_45 : Int) from by first | with_reducible rfl | with_reducible assumption | omega) hw (lv_sub hl [1, 2, 3, 4, 0] rfl)
          · have nc36 : ((RF_45 ip) 15).toInt = (7 : Int) := (i_eq (x := ((RF_45 ip) 15)) (y := 7)).mp c36
            refine lv_aload_n S.x S.b d_Ker_move_67 rfl (lv_at hl 1 rfl) ?_
            refine lv_iload S.x S.b d_Ker_move_68 (lv_at hl 4 rfl) ?_
            refine lv_aload_n S.x S.b d_Ker_move_70 rfl (lv_at hl 0 rfl) ?_
            refine px_get S k_Ker hT hw 0 0 1 (v := .ref (kr 1)) rfl rfl rfl (by decide) m2_220 d_Ker_move_71 ?_
            refine lv_bipush (v := 16) S.x S.b d_Ker_move_74 (by decide) ?_
            refine lv_iload_n S.x S.b d_Ker_move_76 rfl (lv_at hl 2 rfl) ?_
            refine lv_imul S.x S.b d_Ker_move_77 ?_
            refine lv_topi (fun z43 ez43 => ?_)
            have lz43 := Int32.le_toInt z43
            have uz43 := Int32.toInt_lt z43
            have tz43 : -2147483648 ≤ 16 * p0.toInt → 16 * p0.toInt < 2147483648 → z43.toInt = 16 * p0.toInt := by rw [ez43]; exact i_mulc 16 p0 (by decide)
            try replace tz43 : z43.toInt = 16 * p0.toInt := by omega
            refine lv_iload S.x S.b d_Ker_move_78 (lv_at hl 4 rfl) ?_
            refine lv_iadd S.x S.b d_Ker_move_80 ?_
            refine lv_topi (fun z44 ez44 => ?_)
            have tz44 : z44.toInt = (z43.toInt + x45_4.toInt + 2147483648) % 4294967296 - 2147483648 := by rw [ez44]; exact i_add z43 x45_4
            have lz44 := Int32.le_toInt z44
            have uz44 := Int32.toInt_lt z44
            try replace tz44 : z44.toInt = z43.toInt + x45_4.toInt := by omega
            refine px_iald S hT hw 0 2 (n := 128) (f := (ka_45 1)) rfl (ga_Ker_1 _ _ _ _ _ _ _) (x := z44) (vp_in_iff.mpr (by first | exact oz_903bb5f34d tz44 k45_4 tz43 k45_7 nc19 k45_8 | (constructor <;> omega))) d_Ker_move_81 ?_
            refine lv_topi (fun z45 ez45 => ?_)
            have lz45 := Int32.le_toInt z45
            have uz45 := Int32.toInt_lt z45
            refine pg_callv (pr := [wd_Ker cs hk kr (fun _ => none) kf ka_45 (gKe pq pz_45 tq_45 rq_45), fm 13 (fTx cs tq_45 TR_45 TO_45 TF_45 TA_45), fm 8 (fPp cs pq PV), fo 13 (fRw cs rq_45 RR_45 RM_45 RW_45 RF_45 RA_45 RC_45) ip]) (px_runA (As := [.int x45_4, .int z45]) (rest := []) S (c_Raw_moveWord l D cs hx (RR_45 ip) (fun _ _ => none) (some ((PV j2).r 1)) (RF_45 ip) (RA_45 ip) (RM_45 ip) (RC_45 ip) x45_4 z45   _ _) hT (pr := [wd_Ker cs hk kr (fun _ => none) kf ka_45 (gKe pq pz_45 tq_45 rq_45), fm 13 (fTx cs tq_45 TR_45 TO_45 TF_45 TA_45), fm 8 (fPp cs pq PV), fo 13 (fRw cs rq_45 RR_45 RM_45 RW_45 RF_45 RA_45 RC_45) ip]) (pcs := [wd_Raw cs hx (RR_45 ip) (fun k => if k = 2 then (RM_45 ip) else if k = 4 then (some ((PV j2).r 1)) else none) (RF_45 ip) (RA_45 ip) (fun _ _ => none), nA cs (RM_45 ip) 36864 (RC_45 ip)]) hw (px_X.tot px_X.tt) (C := "HomeSystem$RawProcess") (owner := "HomeSystem$AnyProcess") (x := ⟨"HomeSystem$AnyProcess", "moveWord", "(II)V"⟩) (px_recv hT hw 4 0 rfl rfl rfl) m8_116 m8_111 m8_113 m8_115 m8_114 m1_34 m8_112n ⟨by decide, by decide⟩ rfl q_Raw_moveWord ⟨Nat.le_of_ble_eq_true rfl, Nat.le_of_ble_eq_true rfl⟩ hl.1 rfl (Nat.le_of_ble_eq_true rfl) d_Ker_move_82 ⟨show ce_45 + (nd (RM_45 ip)) ≤ (5 * ndS 13 tq + 4 * ndS 13 rq + ndS 13 RM) from by first | with_reducible rfl | with_reducible assumption | omega, show sl_45 + (36864 * nd (RM_45 ip)) ≤ (9804 * ndS 13 tq + 342 * ndS 13 rq + 36864 * ndS 13 RM) from by first | with_reducible rfl | with_reducible assumption | omega⟩) hw hA (fun p50 k52 n53 H locs hp50 hw => ?_)
            dsimp only at hp50
            obtain ⟨f46, a47, o248, ma49, rfl, e54, e55, e56, e57, e58, e59, e60, e61, e62⟩ := hp50
            replace e54 : (f46 3).toInt = ((RF_45 ip) 3).toInt := e54
            replace e55 : (f46 7).toInt = ((RF_45 ip) 7).toInt := e55
            replace e56 : (f46 8).toInt = ((RF_45 ip) 8).toInt := e56
            replace e57 : (f46 10).toInt = ((RF_45 ip) 10).toInt := e57
            replace e58 : (f46 13).toInt = ((RF_45 ip) 13).toInt := e58
            replace e59 : (f46 14).toInt = ((RF_45 ip) 14).toInt := e59
            replace e60 : (f46 11).toInt = ((RF_45 ip) 11).toInt := e60
            replace e61 : k52 + nd o248 ≤ nd (RM_45 ip) := e61
            replace e62 : n53 + 36864 * nd o248 ≤ 36864 * nd (RM_45 ip) := e62
            replace hw : pw D A s.heap H locs [wd_Ker cs hk kr (fun _ => none) kf ka_45 (gKe pq pz_45 tq_45 rq_45), fm 13 (fTx cs tq_45 TR_45 TO_45 TF_45 TA_45), fm 8 (fPp cs pq PV), fo 13 (fRw cs rq_45 RR_45 RM_45 RW_45 RF_45 RA_45 RC_45) ip, wd_Raw cs hx (RR_45 ip) (fun k => if k = 2 then o248 else if k = 4 then (some ((PV j2).r 1)) else none) f46 a47 (fun _ _ => none), nA cs o248 36864 ma49] := hw
            refine lv_goto (tgt := 106) S.x S.b d_Ker_move_85 (by decide) ?_
            obtain ⟨z63, ez63⟩ : ∃ y : Int32, y = x45_4 + 1 := ⟨_, rfl⟩
            have tz63 : z63.toInt = (x45_4.toInt + 1 + 2147483648) % 4294967296 - 2147483648 := by rw [ez63]; exact i_add x45_4 1
            have lz63 := Int32.le_toInt z63
            have uz63 := Int32.toInt_lt z63
            try replace tz63 : z63.toInt = x45_4.toInt + 1 := by omega
            refine lv_iinc (v := z63) (lv' := [(4, .int z63), (0, .ref hk), (1, .ref hx), (2, .int p0), (3, .int x45_3)]) S.x S.b d_Ker_move_106 hl (k := 4) rfl (by rw [ez63]; rfl) (by decide) rfl (fun ls hl => ?_)
            refine lv_goto (tgt := 45) S.x S.b d_Ker_move_109 (by decide) ?_
            have hw := frw_in0 (pr := [wd_Ker cs hk kr (fun _ => none) kf ka_45 (gKe pq pz_45 tq_45 rq_45), fm 13 (fTx cs tq_45 TR_45 TO_45 TF_45 TA_45), fm 8 (fPp cs pq PV)]) hw hip k45_3.1 hto2
            obtain ⟨RM64, hu_RM64⟩ : ∃ y : Nat → Option Nat, y = va_up RM_45 ip o248 := ⟨_, rfl⟩
            obtain ⟨RF65, hu_RF65⟩ : ∃ y : Nat → Nat → Int32, y = va_up RF_45 ip f46 := ⟨_, rfl⟩
            obtain ⟨RA66, hu_RA66⟩ : ∃ y : Nat → Nat → Nat → Int32, y = va_up RA_45 ip a47 := ⟨_, rfl⟩
            obtain ⟨RC67, hu_RC67⟩ : ∃ y : Nat → Nat → Int32, y = va_up RC_45 ip ma49 := ⟨_, rfl⟩
            have hw : pw D A s.heap _ _ [wd_Ker cs hk kr (fun _ => none) kf ka_45 (gKe pq pz_45 tq_45 rq_45), fm 13 (fTx cs tq_45 TR_45 TO_45 TF_45 TA_45), fm 8 (fPp cs pq PV), fm 13 (fRw cs rq_45 RR_45 RM64 RW_45 RF65 RA66 RC67)] := (by rw [hu_RM64, hu_RF65, hu_RA66, hu_RC67]; exact hw)
            have hki : KnI pq PV pz_45 tq_45 rq_45 TO_45 TF_45 TA_45 RW_45 RF65 := (by rw [hu_RF65]; exact hki.upR (show RwN ip f46 from ⟨(show (0 ≤ (f46 7).toInt ∧ (f46 7).toInt ≤ 1600) ∧ (0 ≤ (f46 10).toInt ∧ (f46 10).toInt + (f46 7).toInt ≤ 1600) ∧ ((f46 14).toInt = 0 ∨ (f46 14).toInt = 1) ∧ ((f46 14).toInt = 1 → 1 ≤ (f46 7).toInt) from by first | with_reducible rfl | with_reducible assumption | omega), (show ((f46 8).toInt) = ((ip : Nat) : Int) from by first | with_reducible rfl | with_reducible assumption | omega), (show 0 ≤ (f46 13).toInt ∧ (f46 13).toInt ≤ 3 ∧ ((f46 13).toInt = 0 ∨ 3 * ((ip : Nat) : Int) + (f46 13).toInt ≤ 12) from by first | with_reducible rfl | with_reducible assumption | omega)⟩))
            have hrm : RmI rq_45 RM64 := (by rw [hu_RM64]; exact hrm.up k45_3.1)
            have hnd_RM64 := ndS_up 13 RM_45 ip o248 hip; rw [← hu_RM64] at hnd_RM64
            have hz14_RF65 : (RF65 ip 14).toInt = (f46 14).toInt := (by rw [hu_RF65, va_up_s]; try rfl)
            have hw : pw D A s.heap _ _ [wd_Ker cs hk kr (fun _ => none) kf ka_45 (gKe pq pz_45 tq_45 rq_45), fm 13 (fTx cs tq_45 TR_45 TO_45 TF_45 TA_45), fm 13 (fRw cs rq_45 RR_45 RM64 RW_45 RF65 RA66 RC67), fm 8 (fPp cs pq PV)] := hw.sub [0, 1, 3, 2] rfl rfl
            exact ih45 (ce_45 + k52) (sl_45 + n53) pz_45 tq_45 rq_45 ka_45 TR_45 TO_45 TF_45 TA_45 RR_45 RM64 RW_45 RF65 RA66 RC67 x45_3 z63 _ _ ls (show KnI pq PV pz_45 tq_45 rq_45 TO_45 TF_45 TA_45 RW_45 RF65 from hki) (show RoI ka_45 from hro) (show RmI rq_45 RM64 from hrm) (show CuR pq PV rq_45 RW_45 ip hx from k45_3) (show 0 ≤ z63.toInt from by first | exact oz_ae613611c0 tz63 k45_4 | omega) (show z63.toInt ≤ 16 from by first | exact oz_46c819e4be tz63 nc19 | omega) (show x45_3.toInt ≤ 16 from by first | exact k45_6 | omega) (show 0 ≤ p0.toInt from by first | exact k45_7 | omega) (show p0.toInt ≤ 7 from by first | exact k45_8 | omega) (show (RF65 ip 14).toInt = 1 from by first | exact oz_d145a98bf1 hz14_RF65 e59 k45_9 | omega) (show (ce_45 + k52) + (5 * ndS 13 tq_45 + 4 * ndS 13 rq_45 + ndS 13 RM64) ≤ 5 * ndS 13 tq + 4 * ndS 13 rq + ndS 13 RM from by first | with_reducible rfl | with_reducible assumption | omega) (show (sl_45 + n53) + (9804 * ndS 13 tq_45 + 342 * ndS 13 rq_45 + 36864 * ndS 13 RM64) ≤ 9804 * ndS 13 tq + 342 * ndS 13 rq + 36864 * ndS 13 RM from by first | with_reducible rfl | with_reducible assumption | omega) (show x45_3.toInt - z63.toInt + 4294967297 < (n_45 : Int) from by first | with_reducible rfl | with_reducible assumption | omega) hw (lv_sub hl [1, 2, 3, 4, 0] rfl)
  refine lv_aload_n S.x S.b d_Ker_move_0 rfl (lv_at hl 1 rfl) ?_
  obtain ⟨j68, hp68, hj68, hjq68, hto68⟩ := hcu.2
  have hw : pw D A s.heap _ _ [wd_Ker cs hk kr (fun _ => none) kf ka (gKe pq pz tq rq), fm 13 (fTx cs tq TR TO TF TA), fm 8 (fPp cs pq PV), fm 13 (fRw cs rq RR RM RW RF RA RC)] := hw.sub [0, 1, 3, 2] rfl rfl
  have hw : pw D A s.heap _ _ [wd_Ker cs hk kr (fun _ => none) kf ka (gKe pq pz tq rq), fm 13 (fTx cs tq TR TO TF TA), fm 8 (fPp cs pq PV), fo 13 (fRw cs rq RR RM RW RF RA RC) ip, wd_Raw cs hx (RR ip) (fun k => if k = 2 then (RM ip) else if k = 4 then (some ((PV j68).r 1)) else none) (RF ip) (RA ip) (fun _ _ => none), nA cs (RM ip) 36864 (RC ip)] := frw_out (pr := [wd_Ker cs hk kr (fun _ => none) kf ka (gKe pq pz tq rq), fm 13 (fTx cs tq TR TO TF TA), fm 8 (fPp cs pq PV)]) hw hip hcu.1 hto68
  have hng69 := ndS_ge 13 RM ip hip
  have hrn69 : RwN ip (RF ip) := hki.2.2.1 ip hip _ hcu.1
  have hro69 := hrn69.1
  unfold RwO at hro69
  have hid69 := hrn69.2.1
  have hch69 := hrn69.2.2
  unfold KcI at hch69
  refine px_get S k_Raw hT hw 4 0 8 (v := .int ((RF ip) 8)) rfl rfl rfl (by decide) m6_133 d_Ker_move_1 ?_
  refine lv_if_ne (tgt := 17) S.x S.b d_Ker_move_4 (by decide) (fun c70 => ?_) (fun c70 => ?_)
  · have nc70 : ¬ ((RF ip) 8).toInt = (0 : Int) := mt (i_eq (x := ((RF ip) 8)) (y := 0)).mpr c70
    refine lv_aload_n S.x S.b d_Ker_move_17 rfl (lv_at hl 1 rfl) ?_
    refine lv_iconst (v := 2) S.x S.b d_Ker_move_18 (by decide) ?_
    refine lv_iconst (v := 0) S.x S.b d_Ker_move_19 (by decide) ?_
    have hw : pw D A s.heap _ _ [wd_Ker cs hk kr (fun _ => none) kf ka (gKe pq pz tq rq), fm 13 (fTx cs tq TR TO TF TA), fm 8 (fPp cs pq PV), fo 13 (fRw cs rq RR RM RW RF RA RC) ip, nA cs (RM ip) 36864 (RC ip), wd_Raw cs hx (RR ip) (fun k => if k = 2 then (RM ip) else if k = 4 then (some ((PV j68).r 1)) else none) (RF ip) (RA ip) (fun _ _ => none)] := hw.sub [0, 1, 2, 3, 5, 4] rfl rfl
    refine px_callv (pr := [wd_Ker cs hk kr (fun _ => none) kf ka (gKe pq pz tq rq), fm 13 (fTx cs tq TR TO TF TA), fm 8 (fPp cs pq PV), fo 13 (fRw cs rq RR RM RW RF RA RC) ip, nA cs (RM ip) 36864 (RC ip)]) (px_runU (As := [.int 2, .int 0]) (rest := []) S (c_finish_Raw l D cs hx (RR ip) (fun _ _ => none) (RM ip) (some ((PV j68).r 1)) (RF ip) (RA ip) 2 0   _) hT (pr := [wd_Ker cs hk kr (fun _ => none) kf ka (gKe pq pz tq rq), fm 13 (fTx cs tq TR TO TF TA), fm 8 (fPp cs pq PV), fo 13 (fRw cs rq RR RM RW RF RA RC) ip, nA cs (RM ip) 36864 (RC ip)]) (pcs := [wd_Raw cs hx (RR ip) (fun k => if k = 2 then (RM ip) else if k = 4 then (some ((PV j68).r 1)) else none) (RF ip) (RA ip) (fun _ _ => none)]) hw px_X.tt (C := "HomeSystem$RawProcess") (x := ⟨"HomeSystem$AnyProcess", "finish", "(II)V"⟩) (px_recv hT hw 5 0 rfl rfl rfl) m8_89 m8_84 m8_86 m8_85 m8_87 m1_33 rfl q_HomeSystem_AnyProcess_finish ⟨Nat.le_of_ble_eq_true rfl, Nat.le_of_ble_eq_true rfl⟩ hl.1 rfl (Nat.le_of_ble_eq_true rfl) d_Ker_move_20 ⟨show 0 + 0 ≤ (5 * ndS 13 tq + 4 * ndS 13 rq + ndS 13 RM) from by first | with_reducible rfl | with_reducible assumption | omega, show 0 + 0 ≤ (9804 * ndS 13 tq + 342 * ndS 13 rq + 36864 * ndS 13 RM) from by first | with_reducible rfl | with_reducible assumption | omega⟩) hw hA (fun p73 H locs hp73 hw => ?_)
    obtain ⟨f71, a72, rfl, e75, e76, e77, e78, e79, e80, e81⟩ := hp73
    replace e75 : (f71 3).toInt = ((RF ip) 3).toInt := e75
    replace e76 : (f71 7).toInt = ((RF ip) 7).toInt := e76
    replace e77 : (f71 8).toInt = ((RF ip) 8).toInt := e77
    replace e78 : (f71 10).toInt = ((RF ip) 10).toInt := e78
    replace e79 : (f71 13).toInt = ((RF ip) 13).toInt := e79
    replace e80 : (f71 14).toInt = 0 := e80
    replace e81 : (f71 11).toInt = (2 : Int) := e81
    replace hw : pw D A s.heap H locs [wd_Ker cs hk kr (fun _ => none) kf ka (gKe pq pz tq rq), fm 13 (fTx cs tq TR TO TF TA), fm 8 (fPp cs pq PV), fo 13 (fRw cs rq RR RM RW RF RA RC) ip, nA cs (RM ip) 36864 (RC ip), wd_Raw cs hx (RR ip) (fun k => if k = 2 then (RM ip) else if k = 4 then (some ((PV j68).r 1)) else none) f71 a72 (fun _ _ => none)] := hw
    have hw : pw D A s.heap _ _ [wd_Ker cs hk kr (fun _ => none) kf ka (gKe pq pz tq rq), fm 13 (fTx cs tq TR TO TF TA), fm 8 (fPp cs pq PV), fo 13 (fRw cs rq RR RM RW RF RA RC) ip, wd_Raw cs hx (RR ip) (fun k => if k = 2 then (RM ip) else if k = 4 then (some ((PV j68).r 1)) else none) f71 a72 (fun _ _ => none), nA cs (RM ip) 36864 (RC ip)] := hw.sub [0, 1, 2, 3, 5, 4] rfl rfl
    have hw := frw_in0 (pr := [wd_Ker cs hk kr (fun _ => none) kf ka (gKe pq pz tq rq), fm 13 (fTx cs tq TR TO TF TA), fm 8 (fPp cs pq PV)]) hw hip hcu.1 hto68
    obtain ⟨RM82, hu_RM82⟩ : ∃ y : Nat → Option Nat, y = va_up RM ip (RM ip) := ⟨_, rfl⟩
    obtain ⟨RF83, hu_RF83⟩ : ∃ y : Nat → Nat → Int32, y = va_up RF ip f71 := ⟨_, rfl⟩
    obtain ⟨RA84, hu_RA84⟩ : ∃ y : Nat → Nat → Nat → Int32, y = va_up RA ip a72 := ⟨_, rfl⟩
    obtain ⟨RC85, hu_RC85⟩ : ∃ y : Nat → Nat → Int32, y = va_up RC ip (RC ip) := ⟨_, rfl⟩
    have hw : pw D A s.heap _ _ [wd_Ker cs hk kr (fun _ => none) kf ka (gKe pq pz tq rq), fm 13 (fTx cs tq TR TO TF TA), fm 8 (fPp cs pq PV), fm 13 (fRw cs rq RR RM82 RW RF83 RA84 RC85)] := (by rw [hu_RM82, hu_RF83, hu_RA84, hu_RC85]; exact hw)
    have hki : KnI pq PV pz tq rq TO TF TA RW RF83 := (by rw [hu_RF83]; exact hki.upR (show RwN ip f71 from ⟨(show (0 ≤ (f71 7).toInt ∧ (f71 7).toInt ≤ 1600) ∧ (0 ≤ (f71 10).toInt ∧ (f71 10).toInt + (f71 7).toInt ≤ 1600) ∧ ((f71 14).toInt = 0 ∨ (f71 14).toInt = 1) ∧ ((f71 14).toInt = 1 → 1 ≤ (f71 7).toInt) from by first | with_reducible rfl | with_reducible assumption | omega), (show ((f71 8).toInt) = ((ip : Nat) : Int) from by first | with_reducible rfl | with_reducible assumption | omega), (show 0 ≤ (f71 13).toInt ∧ (f71 13).toInt ≤ 3 ∧ ((f71 13).toInt = 0 ∨ 3 * ((ip : Nat) : Int) + (f71 13).toInt ≤ 12) from by first | with_reducible rfl | with_reducible assumption | omega)⟩))
    have hrm : RmI rq RM82 := (by rw [hu_RM82]; exact hrm.up hcu.1)
    have hnd_RM82 := ndS_up 13 RM ip (RM ip) hip; rw [← hu_RM82] at hnd_RM82
    have hz14_RF83 : (RF83 ip 14).toInt = (f71 14).toInt := (by rw [hu_RF83, va_up_s]; try rfl)
    have hw : pw D A s.heap _ _ [wd_Ker cs hk kr (fun _ => none) kf ka (gKe pq pz tq rq), fm 13 (fTx cs tq TR TO TF TA), fm 13 (fRw cs rq RR RM82 RW RF83 RA84 RC85), fm 8 (fPp cs pq PV)] := hw.sub [0, 1, 3, 2] rfl rfl
    exact pg_vret S hr hlk hAe hw (show 0 ≤ (5 * ndS 13 tq + 4 * ndS 13 rq + ndS 13 RM) from by first | exact oz_86e49526c7 | omega) (show 0 ≤ (9804 * ndS 13 tq + 342 * ndS 13 rq + 36864 * ndS 13 RM) from by first | exact oz_fc3b58e969 | omega) (⟨pz, tq, rq, ka, TR, TO, TF, TA, RR, RM82, RW, RF83, RA84, RC85, rfl, (show CuR pq PV rq RW ip hx from hcu), (show KnI pq PV pz tq rq TO TF TA RW RF83 from hki), (show RoI ka from hro), (show RmI rq RM82 from hrm), (show 0 + (5 * ndS 13 tq + 4 * ndS 13 rq + ndS 13 RM82) ≤ 5 * ndS 13 tq + 4 * ndS 13 rq + ndS 13 RM from by first | with_reducible rfl | with_reducible assumption | omega), (show 0 + (9804 * ndS 13 tq + 342 * ndS 13 rq + 36864 * ndS 13 RM82) ≤ 9804 * ndS 13 tq + 342 * ndS 13 rq + 36864 * ndS 13 RM from by first | with_reducible rfl | with_reducible assumption | omega)⟩) d_Ker_move_23
  · have nc70 : ((RF ip) 8).toInt = (0 : Int) := (i_eq (x := ((RF ip) 8)) (y := 0)).mp c70
    refine lv_iload_n S.x S.b d_Ker_move_7 rfl (lv_at hl 2 rfl) ?_
    refine lv_if_lt (tgt := 17) S.x S.b d_Ker_move_8 (by decide) (fun c86 => ?_) (fun c86 => ?_)
    · have nc86 : p0.toInt < (0 : Int) := (i_lt (x := p0) (y := 0)).mp c86
      refine lv_aload_n S.x S.b d_Ker_move_17 rfl (lv_at hl 1 rfl) ?_
      refine lv_iconst (v := 2) S.x S.b d_Ker_move_18 (by decide) ?_
      refine lv_iconst (v := 0) S.x S.b d_Ker_move_19 (by decide) ?_
      have hw : pw D A s.heap _ _ [wd_Ker cs hk kr (fun _ => none) kf ka (gKe pq pz tq rq), fm 13 (fTx cs tq TR TO TF TA), fm 8 (fPp cs pq PV), fo 13 (fRw cs rq RR RM RW RF RA RC) ip, nA cs (RM ip) 36864 (RC ip), wd_Raw cs hx (RR ip) (fun k => if k = 2 then (RM ip) else if k = 4 then (some ((PV j68).r 1)) else none) (RF ip) (RA ip) (fun _ _ => none)] := hw.sub [0, 1, 2, 3, 5, 4] rfl rfl
      refine px_callv (pr := [wd_Ker cs hk kr (fun _ => none) kf ka (gKe pq pz tq rq), fm 13 (fTx cs tq TR TO TF TA), fm 8 (fPp cs pq PV), fo 13 (fRw cs rq RR RM RW RF RA RC) ip, nA cs (RM ip) 36864 (RC ip)]) (px_runU (As := [.int 2, .int 0]) (rest := []) S (c_finish_Raw l D cs hx (RR ip) (fun _ _ => none) (RM ip) (some ((PV j68).r 1)) (RF ip) (RA ip) 2 0   _) hT (pr := [wd_Ker cs hk kr (fun _ => none) kf ka (gKe pq pz tq rq), fm 13 (fTx cs tq TR TO TF TA), fm 8 (fPp cs pq PV), fo 13 (fRw cs rq RR RM RW RF RA RC) ip, nA cs (RM ip) 36864 (RC ip)]) (pcs := [wd_Raw cs hx (RR ip) (fun k => if k = 2 then (RM ip) else if k = 4 then (some ((PV j68).r 1)) else none) (RF ip) (RA ip) (fun _ _ => none)]) hw px_X.tt (C := "HomeSystem$RawProcess") (x := ⟨"HomeSystem$AnyProcess", "finish", "(II)V"⟩) (px_recv hT hw 5 0 rfl rfl rfl) m8_89 m8_84 m8_86 m8_85 m8_87 m1_33 rfl q_HomeSystem_AnyProcess_finish ⟨Nat.le_of_ble_eq_true rfl, Nat.le_of_ble_eq_true rfl⟩ hl.1 rfl (Nat.le_of_ble_eq_true rfl) d_Ker_move_20 ⟨show 0 + 0 ≤ (5 * ndS 13 tq + 4 * ndS 13 rq + ndS 13 RM) from by first | with_reducible rfl | with_reducible assumption | omega, show 0 + 0 ≤ (9804 * ndS 13 tq + 342 * ndS 13 rq + 36864 * ndS 13 RM) from by first | with_reducible rfl | with_reducible assumption | omega⟩) hw hA (fun p89 H locs hp89 hw => ?_)
      obtain ⟨f87, a88, rfl, e91, e92, e93, e94, e95, e96, e97⟩ := hp89
      replace e91 : (f87 3).toInt = ((RF ip) 3).toInt := e91
      replace e92 : (f87 7).toInt = ((RF ip) 7).toInt := e92
      replace e93 : (f87 8).toInt = ((RF ip) 8).toInt := e93
      replace e94 : (f87 10).toInt = ((RF ip) 10).toInt := e94
      replace e95 : (f87 13).toInt = ((RF ip) 13).toInt := e95
      replace e96 : (f87 14).toInt = 0 := e96
      replace e97 : (f87 11).toInt = (2 : Int) := e97
      replace hw : pw D A s.heap H locs [wd_Ker cs hk kr (fun _ => none) kf ka (gKe pq pz tq rq), fm 13 (fTx cs tq TR TO TF TA), fm 8 (fPp cs pq PV), fo 13 (fRw cs rq RR RM RW RF RA RC) ip, nA cs (RM ip) 36864 (RC ip), wd_Raw cs hx (RR ip) (fun k => if k = 2 then (RM ip) else if k = 4 then (some ((PV j68).r 1)) else none) f87 a88 (fun _ _ => none)] := hw
      have hw : pw D A s.heap _ _ [wd_Ker cs hk kr (fun _ => none) kf ka (gKe pq pz tq rq), fm 13 (fTx cs tq TR TO TF TA), fm 8 (fPp cs pq PV), fo 13 (fRw cs rq RR RM RW RF RA RC) ip, wd_Raw cs hx (RR ip) (fun k => if k = 2 then (RM ip) else if k = 4 then (some ((PV j68).r 1)) else none) f87 a88 (fun _ _ => none), nA cs (RM ip) 36864 (RC ip)] := hw.sub [0, 1, 2, 3, 5, 4] rfl rfl
      have hw := frw_in0 (pr := [wd_Ker cs hk kr (fun _ => none) kf ka (gKe pq pz tq rq), fm 13 (fTx cs tq TR TO TF TA), fm 8 (fPp cs pq PV)]) hw hip hcu.1 hto68
      obtain ⟨RM98, hu_RM98⟩ : ∃ y : Nat → Option Nat, y = va_up RM ip (RM ip) := ⟨_, rfl⟩
      obtain ⟨RF99, hu_RF99⟩ : ∃ y : Nat → Nat → Int32, y = va_up RF ip f87 := ⟨_, rfl⟩
      obtain ⟨RA100, hu_RA100⟩ : ∃ y : Nat → Nat → Nat → Int32, y = va_up RA ip a88 := ⟨_, rfl⟩
      obtain ⟨RC101, hu_RC101⟩ : ∃ y : Nat → Nat → Int32, y = va_up RC ip (RC ip) := ⟨_, rfl⟩
      have hw : pw D A s.heap _ _ [wd_Ker cs hk kr (fun _ => none) kf ka (gKe pq pz tq rq), fm 13 (fTx cs tq TR TO TF TA), fm 8 (fPp cs pq PV), fm 13 (fRw cs rq RR RM98 RW RF99 RA100 RC101)] := (by rw [hu_RM98, hu_RF99, hu_RA100, hu_RC101]; exact hw)
      have hki : KnI pq PV pz tq rq TO TF TA RW RF99 := (by rw [hu_RF99]; exact hki.upR (show RwN ip f87 from ⟨(show (0 ≤ (f87 7).toInt ∧ (f87 7).toInt ≤ 1600) ∧ (0 ≤ (f87 10).toInt ∧ (f87 10).toInt + (f87 7).toInt ≤ 1600) ∧ ((f87 14).toInt = 0 ∨ (f87 14).toInt = 1) ∧ ((f87 14).toInt = 1 → 1 ≤ (f87 7).toInt) from by first | with_reducible rfl | with_reducible assumption | omega), (show ((f87 8).toInt) = ((ip : Nat) : Int) from by first | with_reducible rfl | with_reducible assumption | omega), (show 0 ≤ (f87 13).toInt ∧ (f87 13).toInt ≤ 3 ∧ ((f87 13).toInt = 0 ∨ 3 * ((ip : Nat) : Int) + (f87 13).toInt ≤ 12) from by first | with_reducible rfl | with_reducible assumption | omega)⟩))
      have hrm : RmI rq RM98 := (by rw [hu_RM98]; exact hrm.up hcu.1)
      have hnd_RM98 := ndS_up 13 RM ip (RM ip) hip; rw [← hu_RM98] at hnd_RM98
      have hz14_RF99 : (RF99 ip 14).toInt = (f87 14).toInt := (by rw [hu_RF99, va_up_s]; try rfl)
      have hw : pw D A s.heap _ _ [wd_Ker cs hk kr (fun _ => none) kf ka (gKe pq pz tq rq), fm 13 (fTx cs tq TR TO TF TA), fm 13 (fRw cs rq RR RM98 RW RF99 RA100 RC101), fm 8 (fPp cs pq PV)] := hw.sub [0, 1, 3, 2] rfl rfl
      exact pg_vret S hr hlk hAe hw (show 0 ≤ (5 * ndS 13 tq + 4 * ndS 13 rq + ndS 13 RM) from by first | exact oz_86e49526c7 | omega) (show 0 ≤ (9804 * ndS 13 tq + 342 * ndS 13 rq + 36864 * ndS 13 RM) from by first | exact oz_fc3b58e969 | omega) (⟨pz, tq, rq, ka, TR, TO, TF, TA, RR, RM98, RW, RF99, RA100, RC101, rfl, (show CuR pq PV rq RW ip hx from hcu), (show KnI pq PV pz tq rq TO TF TA RW RF99 from hki), (show RoI ka from hro), (show RmI rq RM98 from hrm), (show 0 + (5 * ndS 13 tq + 4 * ndS 13 rq + ndS 13 RM98) ≤ 5 * ndS 13 tq + 4 * ndS 13 rq + ndS 13 RM from by first | with_reducible rfl | with_reducible assumption | omega), (show 0 + (9804 * ndS 13 tq + 342 * ndS 13 rq + 36864 * ndS 13 RM98) ≤ 9804 * ndS 13 tq + 342 * ndS 13 rq + 36864 * ndS 13 RM from by first | with_reducible rfl | with_reducible assumption | omega)⟩) d_Ker_move_23
    · have nc86 : ¬ p0.toInt < (0 : Int) := mt (i_lt (x := p0) (y := 0)).mpr c86
      refine lv_iload_n S.x S.b d_Ker_move_11 rfl (lv_at hl 2 rfl) ?_
      refine lv_bipush (v := 8) S.x S.b d_Ker_move_12 (by decide) ?_
      refine lv_icmp_lt (tgt := 24) S.x S.b d_Ker_move_14 (by decide) (fun c102 => ?_) (fun c102 => ?_)
      · have nc102 : p0.toInt < (8 : Int) := (i_lt (x := p0) (y := 8)).mp c102
        refine lv_aload_n S.x S.b d_Ker_move_24 rfl (lv_at hl 1 rfl) ?_
        have hw : pw D A s.heap _ _ [wd_Ker cs hk kr (fun _ => none) kf ka (gKe pq pz tq rq), fm 13 (fTx cs tq TR TO TF TA), fm 8 (fPp cs pq PV), fo 13 (fRw cs rq RR RM RW RF RA RC) ip, nA cs (RM ip) 36864 (RC ip), wd_Raw cs hx (RR ip) (fun k => if k = 2 then (RM ip) else if k = 4 then (some ((PV j68).r 1)) else none) (RF ip) (RA ip) (fun _ _ => none)] := hw.sub [0, 1, 2, 3, 5, 4] rfl rfl
        refine px_calli (pr := [wd_Ker cs hk kr (fun _ => none) kf ka (gKe pq pz tq rq), fm 13 (fTx cs tq TR TO TF TA), fm 8 (fPp cs pq PV), fo 13 (fRw cs rq RR RM RW RF RA RC) ip, nA cs (RM ip) 36864 (RC ip)]) (px_runA (As := []) (rest := []) S (c_Raw_movable l D cs hx (RR ip) (fun _ _ => none) (RM ip) (some ((PV j68).r 1)) (RF ip) (RA ip)    _) hT (pr := [wd_Ker cs hk kr (fun _ => none) kf ka (gKe pq pz tq rq), fm 13 (fTx cs tq TR TO TF TA), fm 8 (fPp cs pq PV), fo 13 (fRw cs rq RR RM RW RF RA RC) ip, nA cs (RM ip) 36864 (RC ip)]) (pcs := [wd_Raw cs hx (RR ip) (fun k => if k = 2 then (RM ip) else if k = 4 then (some ((PV j68).r 1)) else none) (RF ip) (RA ip) (fun _ _ => none)]) hw px_X.tt (C := "HomeSystem$RawProcess") (owner := "HomeSystem$AnyProcess") (x := ⟨"HomeSystem$AnyProcess", "movable", "()I"⟩) (px_recv hT hw 5 0 rfl rfl rfl) m8_95 m8_90 m8_92 m8_94 m8_93 m1_34 m8_91n ⟨by decide, by decide⟩ rfl q_Raw_movable ⟨Nat.le_of_ble_eq_true rfl, Nat.le_of_ble_eq_true rfl⟩ hl.1 rfl (Nat.le_of_ble_eq_true rfl) d_Ker_move_25 ⟨show 0 + 0 ≤ (5 * ndS 13 tq + 4 * ndS 13 rq + ndS 13 RM) from by first | with_reducible rfl | with_reducible assumption | omega, show 0 + 0 ≤ (9804 * ndS 13 tq + 342 * ndS 13 rq + 36864 * ndS 13 RM) from by first | with_reducible rfl | with_reducible assumption | omega⟩) hw hA (fun v104 p103 H locs hp103 hw => ?_)
        obtain ⟨rfl, e105, e106⟩ := hp103
        replace e105 : -1 ≤ v104.toInt := e105
        replace e106 : v104.toInt ≤ 16 := e106
        replace hw : pw D A s.heap H locs [wd_Ker cs hk kr (fun _ => none) kf ka (gKe pq pz tq rq), fm 13 (fTx cs tq TR TO TF TA), fm 8 (fPp cs pq PV), fo 13 (fRw cs rq RR RM RW RF RA RC) ip, nA cs (RM ip) 36864 (RC ip), wd_Raw cs hx (RR ip) (fun k => if k = 2 then (RM ip) else if k = 4 then (some ((PV j68).r 1)) else none) (RF ip) (RA ip) (fun _ _ => none)] := hw
        have lv104 := Int32.le_toInt v104
        have uv104 := Int32.toInt_lt v104
        refine lv_istore_n (lv' := [(3, .int v104), (0, .ref hk), (1, .ref hx), (2, .int p0)]) S.x S.b d_Ker_move_28 rfl hl (by decide) rfl (fun ls hl => ?_)
        refine lv_iload_n S.x S.b d_Ker_move_29 rfl (lv_at hl 0 rfl) ?_
        refine lv_iconst (v := (-1)) S.x S.b d_Ker_move_30 (by decide) ?_
        refine lv_icmp_ne (tgt := 42) S.x S.b d_Ker_move_31 (by decide) (fun c107 => ?_) (fun c107 => ?_)
        · have nc107 : ¬ v104.toInt = (-1 : Int) := mt (i_eq (x := v104) (y := (-1))).mpr c107
          refine lv_iconst (v := 0) S.x S.b d_Ker_move_42 (by decide) ?_
          refine lv_istore (lv' := [(4, .int 0), (3, .int v104), (0, .ref hk), (1, .ref hx), (2, .int p0)]) S.x S.b d_Ker_move_43 hl (by decide) rfl (fun ls hl => ?_)
          have hw : pw D A s.heap _ _ [wd_Ker cs hk kr (fun _ => none) kf ka (gKe pq pz tq rq), fm 13 (fTx cs tq TR TO TF TA), fm 8 (fPp cs pq PV), fo 13 (fRw cs rq RR RM RW RF RA RC) ip, wd_Raw cs hx (RR ip) (fun k => if k = 2 then (RM ip) else if k = 4 then (some ((PV j68).r 1)) else none) (RF ip) (RA ip) (fun _ _ => none), nA cs (RM ip) 36864 (RC ip)] := hw.sub [0, 1, 2, 3, 5, 4] rfl rfl
          have hw : pw D A s.heap _ _ [wd_Ker cs hk kr (fun _ => none) kf ka (gKe pq pz tq rq), fm 13 (fTx cs tq TR TO TF TA), fm 8 (fPp cs pq PV), fm 13 (fRw cs rq RR RM RW RF RA RC)] := frw_back (pr := [wd_Ker cs hk kr (fun _ => none) kf ka (gKe pq pz tq rq), fm 13 (fTx cs tq TR TO TF TA), fm 8 (fPp cs pq PV)]) hw hip hcu.1 hto68
          have hw : pw D A s.heap _ _ [wd_Ker cs hk kr (fun _ => none) kf ka (gKe pq pz tq rq), fm 13 (fTx cs tq TR TO TF TA), fm 13 (fRw cs rq RR RM RW RF RA RC), fm 8 (fPp cs pq PV)] := hw.sub [0, 1, 3, 2] rfl rfl
          exact J45 ((v104.toInt - (0 : Int) + 4294967297).toNat + 1) 0 0 pz tq rq ka TR TO TF TA RR RM RW RF RA RC v104 (0 : Int32) _ _ ls (show KnI pq PV pz tq rq TO TF TA RW RF from hki) (show RoI ka from hro) (show RmI rq RM from hrm) (show CuR pq PV rq RW ip hx from hcu) (show 0 ≤ (0 : Int) from by first | decide | omega) (show (0 : Int) ≤ 16 from by first | decide | omega) (show v104.toInt ≤ 16 from by first | exact e106 | omega) (show 0 ≤ p0.toInt from by first | exact oz_18a5c06a28 nc86 | omega) (show p0.toInt ≤ 7 from by first | exact oz_2516c64904 nc102 | omega) (show (RF ip 14).toInt = 1 from by first | exact g0 | omega) (show 0 + (5 * ndS 13 tq + 4 * ndS 13 rq + ndS 13 RM) ≤ 5 * ndS 13 tq + 4 * ndS 13 rq + ndS 13 RM from by first | exact oz_9d19b050ad | omega) (show 0 + (9804 * ndS 13 tq + 342 * ndS 13 rq + 36864 * ndS 13 RM) ≤ 9804 * ndS 13 tq + 342 * ndS 13 rq + 36864 * ndS 13 RM from by first | exact oz_b5592d0ae7 | omega) (show v104.toInt - (0 : Int) + 4294967297 < ((((v104.toInt - (0 : Int) + 4294967297).toNat + 1 : Nat) : Int) : Int) from by first | exact oz_natlt | omega) hw (lv_sub hl [2, 3, 4, 1, 0] rfl)
        · have nc107 : v104.toInt = (-1 : Int) := (i_eq (x := v104) (y := (-1))).mp c107
          refine lv_aload_n S.x S.b d_Ker_move_34 rfl (lv_at hl 2 rfl) ?_
          refine lv_bipush (v := 7) S.x S.b d_Ker_move_35 (by decide) ?_
          refine lv_iconst (v := 0) S.x S.b d_Ker_move_37 (by decide) ?_
          refine px_callv (pr := [wd_Ker cs hk kr (fun _ => none) kf ka (gKe pq pz tq rq), fm 13 (fTx cs tq TR TO TF TA), fm 8 (fPp cs pq PV), fo 13 (fRw cs rq RR RM RW RF RA RC) ip, nA cs (RM ip) 36864 (RC ip)]) (px_runU (As := [.int 7, .int 0]) (rest := []) S (c_finish_Raw l D cs hx (RR ip) (fun _ _ => none) (RM ip) (some ((PV j68).r 1)) (RF ip) (RA ip) 7 0   _) hT (pr := [wd_Ker cs hk kr (fun _ => none) kf ka (gKe pq pz tq rq), fm 13 (fTx cs tq TR TO TF TA), fm 8 (fPp cs pq PV), fo 13 (fRw cs rq RR RM RW RF RA RC) ip, nA cs (RM ip) 36864 (RC ip)]) (pcs := [wd_Raw cs hx (RR ip) (fun k => if k = 2 then (RM ip) else if k = 4 then (some ((PV j68).r 1)) else none) (RF ip) (RA ip) (fun _ _ => none)]) hw px_X.tt (C := "HomeSystem$RawProcess") (x := ⟨"HomeSystem$AnyProcess", "finish", "(II)V"⟩) (px_recv hT hw 5 0 rfl rfl rfl) m8_89 m8_84 m8_86 m8_85 m8_87 m1_33 rfl q_HomeSystem_AnyProcess_finish ⟨Nat.le_of_ble_eq_true rfl, Nat.le_of_ble_eq_true rfl⟩ hl.1 rfl (Nat.le_of_ble_eq_true rfl) d_Ker_move_38 ⟨show 0 + 0 ≤ (5 * ndS 13 tq + 4 * ndS 13 rq + ndS 13 RM) from by first | with_reducible rfl | with_reducible assumption | omega, show 0 + 0 ≤ (9804 * ndS 13 tq + 342 * ndS 13 rq + 36864 * ndS 13 RM) from by first | with_reducible rfl | with_reducible assumption | omega⟩) hw hA (fun p110 H locs hp110 hw => ?_)
          obtain ⟨f108, a109, rfl, e112, e113, e114, e115, e116, e117, e118⟩ := hp110
          replace e112 : (f108 3).toInt = ((RF ip) 3).toInt := e112
          replace e113 : (f108 7).toInt = ((RF ip) 7).toInt := e113
          replace e114 : (f108 8).toInt = ((RF ip) 8).toInt := e114
          replace e115 : (f108 10).toInt = ((RF ip) 10).toInt := e115
          replace e116 : (f108 13).toInt = ((RF ip) 13).toInt := e116
          replace e117 : (f108 14).toInt = 0 := e117
          replace e118 : (f108 11).toInt = (7 : Int) := e118
          replace hw : pw D A s.heap H locs [wd_Ker cs hk kr (fun _ => none) kf ka (gKe pq pz tq rq), fm 13 (fTx cs tq TR TO TF TA), fm 8 (fPp cs pq PV), fo 13 (fRw cs rq RR RM RW RF RA RC) ip, nA cs (RM ip) 36864 (RC ip), wd_Raw cs hx (RR ip) (fun k => if k = 2 then (RM ip) else if k = 4 then (some ((PV j68).r 1)) else none) f108 a109 (fun _ _ => none)] := hw
          have hw : pw D A s.heap _ _ [wd_Ker cs hk kr (fun _ => none) kf ka (gKe pq pz tq rq), fm 13 (fTx cs tq TR TO TF TA), fm 8 (fPp cs pq PV), fo 13 (fRw cs rq RR RM RW RF RA RC) ip, wd_Raw cs hx (RR ip) (fun k => if k = 2 then (RM ip) else if k = 4 then (some ((PV j68).r 1)) else none) f108 a109 (fun _ _ => none), nA cs (RM ip) 36864 (RC ip)] := hw.sub [0, 1, 2, 3, 5, 4] rfl rfl
          have hw := frw_in0 (pr := [wd_Ker cs hk kr (fun _ => none) kf ka (gKe pq pz tq rq), fm 13 (fTx cs tq TR TO TF TA), fm 8 (fPp cs pq PV)]) hw hip hcu.1 hto68
          obtain ⟨RM119, hu_RM119⟩ : ∃ y : Nat → Option Nat, y = va_up RM ip (RM ip) := ⟨_, rfl⟩
          obtain ⟨RF120, hu_RF120⟩ : ∃ y : Nat → Nat → Int32, y = va_up RF ip f108 := ⟨_, rfl⟩
          obtain ⟨RA121, hu_RA121⟩ : ∃ y : Nat → Nat → Nat → Int32, y = va_up RA ip a109 := ⟨_, rfl⟩
          obtain ⟨RC122, hu_RC122⟩ : ∃ y : Nat → Nat → Int32, y = va_up RC ip (RC ip) := ⟨_, rfl⟩
          have hw : pw D A s.heap _ _ [wd_Ker cs hk kr (fun _ => none) kf ka (gKe pq pz tq rq), fm 13 (fTx cs tq TR TO TF TA), fm 8 (fPp cs pq PV), fm 13 (fRw cs rq RR RM119 RW RF120 RA121 RC122)] := (by rw [hu_RM119, hu_RF120, hu_RA121, hu_RC122]; exact hw)
          have hki : KnI pq PV pz tq rq TO TF TA RW RF120 := (by rw [hu_RF120]; exact hki.upR (show RwN ip f108 from ⟨(show (0 ≤ (f108 7).toInt ∧ (f108 7).toInt ≤ 1600) ∧ (0 ≤ (f108 10).toInt ∧ (f108 10).toInt + (f108 7).toInt ≤ 1600) ∧ ((f108 14).toInt = 0 ∨ (f108 14).toInt = 1) ∧ ((f108 14).toInt = 1 → 1 ≤ (f108 7).toInt) from by first | with_reducible rfl | with_reducible assumption | omega), (show ((f108 8).toInt) = ((ip : Nat) : Int) from by first | with_reducible rfl | with_reducible assumption | omega), (show 0 ≤ (f108 13).toInt ∧ (f108 13).toInt ≤ 3 ∧ ((f108 13).toInt = 0 ∨ 3 * ((ip : Nat) : Int) + (f108 13).toInt ≤ 12) from by first | with_reducible rfl | with_reducible assumption | omega)⟩))
          have hrm : RmI rq RM119 := (by rw [hu_RM119]; exact hrm.up hcu.1)
          have hnd_RM119 := ndS_up 13 RM ip (RM ip) hip; rw [← hu_RM119] at hnd_RM119
          have hz14_RF120 : (RF120 ip 14).toInt = (f108 14).toInt := (by rw [hu_RF120, va_up_s]; try rfl)
          have hw : pw D A s.heap _ _ [wd_Ker cs hk kr (fun _ => none) kf ka (gKe pq pz tq rq), fm 13 (fTx cs tq TR TO TF TA), fm 13 (fRw cs rq RR RM119 RW RF120 RA121 RC122), fm 8 (fPp cs pq PV)] := hw.sub [0, 1, 3, 2] rfl rfl
          exact pg_vret S hr hlk hAe hw (show 0 ≤ (5 * ndS 13 tq + 4 * ndS 13 rq + ndS 13 RM) from by first | exact oz_86e49526c7 | omega) (show 0 ≤ (9804 * ndS 13 tq + 342 * ndS 13 rq + 36864 * ndS 13 RM) from by first | exact oz_fc3b58e969 | omega) (⟨pz, tq, rq, ka, TR, TO, TF, TA, RR, RM119, RW, RF120, RA121, RC122, rfl, (show CuR pq PV rq RW ip hx from hcu), (show KnI pq PV pz tq rq TO TF TA RW RF120 from hki), (show RoI ka from hro), (show RmI rq RM119 from hrm), (show 0 + (5 * ndS 13 tq + 4 * ndS 13 rq + ndS 13 RM119) ≤ 5 * ndS 13 tq + 4 * ndS 13 rq + ndS 13 RM from by first | with_reducible rfl | with_reducible assumption | omega), (show 0 + (9804 * ndS 13 tq + 342 * ndS 13 rq + 36864 * ndS 13 RM119) ≤ 9804 * ndS 13 tq + 342 * ndS 13 rq + 36864 * ndS 13 RM from by first | with_reducible rfl | with_reducible assumption | omega)⟩) d_Ker_move_41
      · have nc102 : ¬ p0.toInt < (8 : Int) := mt (i_lt (x := p0) (y := 8)).mpr c102
        refine lv_aload_n S.x S.b d_Ker_move_17 rfl (lv_at hl 1 rfl) ?_
        refine lv_iconst (v := 2) S.x S.b d_Ker_move_18 (by decide) ?_
        refine lv_iconst (v := 0) S.x S.b d_Ker_move_19 (by decide) ?_
        have hw : pw D A s.heap _ _ [wd_Ker cs hk kr (fun _ => none) kf ka (gKe pq pz tq rq), fm 13 (fTx cs tq TR TO TF TA), fm 8 (fPp cs pq PV), fo 13 (fRw cs rq RR RM RW RF RA RC) ip, nA cs (RM ip) 36864 (RC ip), wd_Raw cs hx (RR ip) (fun k => if k = 2 then (RM ip) else if k = 4 then (some ((PV j68).r 1)) else none) (RF ip) (RA ip) (fun _ _ => none)] := hw.sub [0, 1, 2, 3, 5, 4] rfl rfl
        refine px_callv (pr := [wd_Ker cs hk kr (fun _ => none) kf ka (gKe pq pz tq rq), fm 13 (fTx cs tq TR TO TF TA), fm 8 (fPp cs pq PV), fo 13 (fRw cs rq RR RM RW RF RA RC) ip, nA cs (RM ip) 36864 (RC ip)]) (px_runU (As := [.int 2, .int 0]) (rest := []) S (c_finish_Raw l D cs hx (RR ip) (fun _ _ => none) (RM ip) (some ((PV j68).r 1)) (RF ip) (RA ip) 2 0   _) hT (pr := [wd_Ker cs hk kr (fun _ => none) kf ka (gKe pq pz tq rq), fm 13 (fTx cs tq TR TO TF TA), fm 8 (fPp cs pq PV), fo 13 (fRw cs rq RR RM RW RF RA RC) ip, nA cs (RM ip) 36864 (RC ip)]) (pcs := [wd_Raw cs hx (RR ip) (fun k => if k = 2 then (RM ip) else if k = 4 then (some ((PV j68).r 1)) else none) (RF ip) (RA ip) (fun _ _ => none)]) hw px_X.tt (C := "HomeSystem$RawProcess") (x := ⟨"HomeSystem$AnyProcess", "finish", "(II)V"⟩) (px_recv hT hw 5 0 rfl rfl rfl) m8_89 m8_84 m8_86 m8_85 m8_87 m1_33 rfl q_HomeSystem_AnyProcess_finish ⟨Nat.le_of_ble_eq_true rfl, Nat.le_of_ble_eq_true rfl⟩ hl.1 rfl (Nat.le_of_ble_eq_true rfl) d_Ker_move_20 ⟨show 0 + 0 ≤ (5 * ndS 13 tq + 4 * ndS 13 rq + ndS 13 RM) from by first | with_reducible rfl | with_reducible assumption | omega, show 0 + 0 ≤ (9804 * ndS 13 tq + 342 * ndS 13 rq + 36864 * ndS 13 RM) from by first | with_reducible rfl | with_reducible assumption | omega⟩) hw hA (fun p125 H locs hp125 hw => ?_)
        obtain ⟨f123, a124, rfl, e127, e128, e129, e130, e131, e132, e133⟩ := hp125
        replace e127 : (f123 3).toInt = ((RF ip) 3).toInt := e127
        replace e128 : (f123 7).toInt = ((RF ip) 7).toInt := e128
        replace e129 : (f123 8).toInt = ((RF ip) 8).toInt := e129
        replace e130 : (f123 10).toInt = ((RF ip) 10).toInt := e130
        replace e131 : (f123 13).toInt = ((RF ip) 13).toInt := e131
        replace e132 : (f123 14).toInt = 0 := e132
        replace e133 : (f123 11).toInt = (2 : Int) := e133
        replace hw : pw D A s.heap H locs [wd_Ker cs hk kr (fun _ => none) kf ka (gKe pq pz tq rq), fm 13 (fTx cs tq TR TO TF TA), fm 8 (fPp cs pq PV), fo 13 (fRw cs rq RR RM RW RF RA RC) ip, nA cs (RM ip) 36864 (RC ip), wd_Raw cs hx (RR ip) (fun k => if k = 2 then (RM ip) else if k = 4 then (some ((PV j68).r 1)) else none) f123 a124 (fun _ _ => none)] := hw
        have hw : pw D A s.heap _ _ [wd_Ker cs hk kr (fun _ => none) kf ka (gKe pq pz tq rq), fm 13 (fTx cs tq TR TO TF TA), fm 8 (fPp cs pq PV), fo 13 (fRw cs rq RR RM RW RF RA RC) ip, wd_Raw cs hx (RR ip) (fun k => if k = 2 then (RM ip) else if k = 4 then (some ((PV j68).r 1)) else none) f123 a124 (fun _ _ => none), nA cs (RM ip) 36864 (RC ip)] := hw.sub [0, 1, 2, 3, 5, 4] rfl rfl
        have hw := frw_in0 (pr := [wd_Ker cs hk kr (fun _ => none) kf ka (gKe pq pz tq rq), fm 13 (fTx cs tq TR TO TF TA), fm 8 (fPp cs pq PV)]) hw hip hcu.1 hto68
        obtain ⟨RM134, hu_RM134⟩ : ∃ y : Nat → Option Nat, y = va_up RM ip (RM ip) := ⟨_, rfl⟩
        obtain ⟨RF135, hu_RF135⟩ : ∃ y : Nat → Nat → Int32, y = va_up RF ip f123 := ⟨_, rfl⟩
        obtain ⟨RA136, hu_RA136⟩ : ∃ y : Nat → Nat → Nat → Int32, y = va_up RA ip a124 := ⟨_, rfl⟩
        obtain ⟨RC137, hu_RC137⟩ : ∃ y : Nat → Nat → Int32, y = va_up RC ip (RC ip) := ⟨_, rfl⟩
        have hw : pw D A s.heap _ _ [wd_Ker cs hk kr (fun _ => none) kf ka (gKe pq pz tq rq), fm 13 (fTx cs tq TR TO TF TA), fm 8 (fPp cs pq PV), fm 13 (fRw cs rq RR RM134 RW RF135 RA136 RC137)] := (by rw [hu_RM134, hu_RF135, hu_RA136, hu_RC137]; exact hw)
        have hki : KnI pq PV pz tq rq TO TF TA RW RF135 := (by rw [hu_RF135]; exact hki.upR (show RwN ip f123 from ⟨(show (0 ≤ (f123 7).toInt ∧ (f123 7).toInt ≤ 1600) ∧ (0 ≤ (f123 10).toInt ∧ (f123 10).toInt + (f123 7).toInt ≤ 1600) ∧ ((f123 14).toInt = 0 ∨ (f123 14).toInt = 1) ∧ ((f123 14).toInt = 1 → 1 ≤ (f123 7).toInt) from by first | with_reducible rfl | with_reducible assumption | omega), (show ((f123 8).toInt) = ((ip : Nat) : Int) from by first | with_reducible rfl | with_reducible assumption | omega), (show 0 ≤ (f123 13).toInt ∧ (f123 13).toInt ≤ 3 ∧ ((f123 13).toInt = 0 ∨ 3 * ((ip : Nat) : Int) + (f123 13).toInt ≤ 12) from by first | with_reducible rfl | with_reducible assumption | omega)⟩))
        have hrm : RmI rq RM134 := (by rw [hu_RM134]; exact hrm.up hcu.1)
        have hnd_RM134 := ndS_up 13 RM ip (RM ip) hip; rw [← hu_RM134] at hnd_RM134
        have hz14_RF135 : (RF135 ip 14).toInt = (f123 14).toInt := (by rw [hu_RF135, va_up_s]; try rfl)
        have hw : pw D A s.heap _ _ [wd_Ker cs hk kr (fun _ => none) kf ka (gKe pq pz tq rq), fm 13 (fTx cs tq TR TO TF TA), fm 13 (fRw cs rq RR RM134 RW RF135 RA136 RC137), fm 8 (fPp cs pq PV)] := hw.sub [0, 1, 3, 2] rfl rfl
        exact pg_vret S hr hlk hAe hw (show 0 ≤ (5 * ndS 13 tq + 4 * ndS 13 rq + ndS 13 RM) from by first | exact oz_86e49526c7 | omega) (show 0 ≤ (9804 * ndS 13 tq + 342 * ndS 13 rq + 36864 * ndS 13 RM) from by first | exact oz_fc3b58e969 | omega) (⟨pz, tq, rq, ka, TR, TO, TF, TA, RR, RM134, RW, RF135, RA136, RC137, rfl, (show CuR pq PV rq RW ip hx from hcu), (show KnI pq PV pz tq rq TO TF TA RW RF135 from hki), (show RoI ka from hro), (show RmI rq RM134 from hrm), (show 0 + (5 * ndS 13 tq + 4 * ndS 13 rq + ndS 13 RM134) ≤ 5 * ndS 13 tq + 4 * ndS 13 rq + ndS 13 RM from by first | with_reducible rfl | with_reducible assumption | omega), (show 0 + (9804 * ndS 13 tq + 342 * ndS 13 rq + 36864 * ndS 13 RM134) ≤ 9804 * ndS 13 tq + 342 * ndS 13 rq + 36864 * ndS 13 RM from by first | with_reducible rfl | with_reducible assumption | omega)⟩) d_Ker_move_23
