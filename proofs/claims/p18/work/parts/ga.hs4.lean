theorem oz_b07c4310f6 {n0 n1 n2 : Nat}  : 1 ≤ (5 * n0 + 4 * n1 + n2 + 1) := by omega
theorem oz_4654204a11 {n0 n1 n2 : Nat}  : 6 ≤ (9804 * n0 + 342 * n1 + 36864 * n2 + 6) := by omega
theorem oz_f7a52c08c8 {a0 : Int} (h0 : ¬ a0 < (0 : Int)) (h1 : a0 < (8 : Int)) : 0 ≤ a0 ∧ a0 < ((8 : Nat) : Int) := by omega
theorem oz_64f9ecd053 {a1 : Int} {n0 : Nat} (h0 : (n0 : Int) = a1) (h1 : a1 < (8 : Int)) : n0 < 8 := by omega
theorem oz_e4f123c4a8 {n0 n1 n2 : Nat}  : 0 + (5 * n0 + 4 * n1 + n2) ≤ (5 * n0 + 4 * n1 + n2 + 1) := by omega
theorem oz_bf332b6238 {n0 n1 n2 : Nat}  : 0 + (9804 * n0 + 342 * n1 + 36864 * n2) ≤ (9804 * n0 + 342 * n1 + 36864 * n2 + 6) := by omega
theorem oz_c793111b82 {n0 n1 n2 n3 n4 n5 n6 : Nat} (h0 : n0 + (5 * n4 + 4 * n5 + n6) ≤ 5 * n1 + 4 * n2 + n3) : (0 + n0) ≤ (5 * n1 + 4 * n2 + n3 + 1) := by omega
theorem oz_d41203ea2e {n0 n1 n2 n3 n4 n5 n6 : Nat} (h0 : n0 + (9804 * n4 + 342 * n5 + 36864 * n6) ≤ 9804 * n1 + 342 * n2 + 36864 * n3) : (0 + n0) ≤ (9804 * n1 + 342 * n2 + 36864 * n3 + 6) := by omega
theorem oz_f58e026cf0 {a0 a1 a2 a3 a4 : Int} (h0 : a0 = a1 - a2) (h1 : a3 ≤ a1) (h2 : a2 = a4 + (30 : Int)) (h3 : a3 = a4 + (30 : Int)) : 0 ≤ a0 := by omega
theorem oz_f59eee2840 {a0 a1 a2 a3 : Int} (h0 : a0 = a1 - a2) (h1 : a1 ≤ 6000) (h2 : a2 = a3 + (30 : Int)) (h3 : ¬ a3 < (0 : Int)) : a0 ≤ 6000 := by omega
theorem oz_1ee3e81409 {a0 : Int} (h0 : a0 < (8 : Int)) : a0 < 8 := by omega
theorem oz_ba45a44d1f {a0 a1 a2 : Int} (h0 : a2 = a0 + (30 : Int)) (h1 : a2 ≤ a1) : a0 + 30 ≤ a1 := by omega
theorem oz_2d547f59e3 {n0 n1 n2 : Nat}  : 0 ≤ (5 * n0 + 4 * n1 + n2 + 1) := by omega
theorem oz_f2ef712a79 {n0 n1 n2 : Nat}  : 0 ≤ (9804 * n0 + 342 * n1 + 36864 * n2 + 6) := by omega
theorem oz_5b4d909413 {n0 : Nat} (h0 : (n0 : Int) = 1) : n0 + 1 ≤ (3) := by omega
theorem oz_6cfa0b61d6 {n0 : Nat} (h0 : (n0 : Int) = 1) : (n0 + 1) + 0 ≤ (3) := by omega
theorem oz_4367d87500 {n0 : Nat} (h0 : (n0 : Int) = 1) : (n0 + 1) ≤ (3) := by omega
theorem oz_8932ecf656 {n0 : Nat} (h0 : (n0 : Int) = 1) : (n0 + 1) ≤ 2 := by omega
theorem oz_b93e5bfff5 {a0 : Int} {n1 : Nat} (h0 : (n1 : Int) = a0) : (0 : Int) ≤ a0 := by omega
theorem oz_68a0fa17a3 {a0 : Int} (h0 : 0 ≤ a0) : 4 * (0 : Int) ≤ a0 + 24 := by omega
theorem m2_219 : Cond.fieldLink "HomeSystem" 76 "HomeSystem$Kernel" "programs" "[LHomeSystem$Program;" ∈ AL := AL_2 (List.mem_of_getElem? (i := 219) rfl) rfl
theorem m6_105 : Cond.methodLink "HomeSystem" 88 ⟨"HomeSystem$Kernel", "boot", "(IIII)I"⟩ ∈ AL := AL_6 (List.mem_of_getElem? (i := 105) rfl) rfl
theorem m6_108 : Cond.code ⟨"HomeSystem$Kernel", "boot", "(IIII)I"⟩ prog_4_method_2_code 8 (Option.some FieldType.int) ∈ AL := AL_6 (List.mem_of_getElem? (i := 108) rfl) rfl
theorem m6_107 : Cond.selects "HomeSystem$Kernel" ⟨"HomeSystem$Kernel", "boot", "(IIII)I"⟩ ⟨"HomeSystem$Kernel", "boot", "(IIII)I"⟩ ∈ AL := AL_6 (List.mem_of_getElem? (i := 107) rfl) rfl
theorem m6_106 : Cond.instanceMethod ⟨"HomeSystem$Kernel", "boot", "(IIII)I"⟩ ∈ AL := AL_6 (List.mem_of_getElem? (i := 106) rfl) rfl
theorem m6_100 : Cond.instanceMethod ⟨"java/lang/ArithmeticException", "<init>", "()V"⟩ ∈ AL := AL_6 (List.mem_of_getElem? (i := 100) rfl) rfl
theorem m6_101 : Cond.code ⟨"java/lang/ArithmeticException", "<init>", "()V"⟩ prog_19_method_1_code 1 (Option.none : Option Jvm.ClassFile.FieldType) ∈ AL := AL_6 (List.mem_of_getElem? (i := 101) rfl) rfl
theorem m6_102 : Cond.methodLink "java/lang/ArithmeticException" 1 ⟨"java/lang/RuntimeException", "<init>", "()V"⟩ ∈ AL := AL_6 (List.mem_of_getElem? (i := 102) rfl) rfl
theorem m6_99 : Cond.methodLink "HomeSystem" 87 ⟨"java/lang/ArithmeticException", "<init>", "()V"⟩ ∈ AL := AL_6 (List.mem_of_getElem? (i := 99) rfl) rfl
theorem m6_91 : Cond.instantiable "java/lang/ArithmeticException" 6 ∈ AL := AL_6 (List.mem_of_getElem? (i := 91) rfl) rfl
theorem m6_92n : Cond.castable "java/lang/ArithmeticException" "java/lang/ArithmeticException" ∈ tables_1 := by unfold tables_1; exact List.mem_append_right _ (List.mem_append_right _ (List.mem_append_right _ (List.mem_append_right _ (List.mem_append_right _ (List.mem_append_left _ (List.mem_of_getElem? (i := 92) rfl))))))
theorem m6_93 : Cond.selects "java/lang/ArithmeticException" ⟨"java/lang/Throwable", "fillInStackTrace", "(I)Ljava/lang/Throwable;"⟩ ⟨"java/lang/Throwable", "fillInStackTrace", "(I)Ljava/lang/Throwable;"⟩ ∈ AL := AL_6 (List.mem_of_getElem? (i := 93) rfl) rfl
theorem m3_88 : Cond.selects "java/lang/ArithmeticException" ⟨"java/lang/Throwable", "fillInStackTrace", "()Ljava/lang/Throwable;"⟩ ⟨"java/lang/Throwable", "fillInStackTrace", "()Ljava/lang/Throwable;"⟩ ∈ AL := AL_3 (List.mem_of_getElem? (i := 88) rfl) rfl
theorem m6_94 : Cond.lays "java/lang/ArithmeticException" "java/lang/Throwable" "cause" "Ljava/lang/Throwable;" ∈ AL := AL_6 (List.mem_of_getElem? (i := 94) rfl) rfl
theorem m6_95 : Cond.lays "java/lang/ArithmeticException" "java/lang/Throwable" "stackTrace" "[Ljava/lang/StackTraceElement;" ∈ AL := AL_6 (List.mem_of_getElem? (i := 95) rfl) rfl
theorem m6_96 : Cond.lays "java/lang/ArithmeticException" "java/lang/Throwable" "suppressedExceptions" "Ljava/util/List;" ∈ AL := AL_6 (List.mem_of_getElem? (i := 96) rfl) rfl
theorem m6_97 : Cond.lays "java/lang/ArithmeticException" "java/lang/Throwable" "detailMessage" "Ljava/lang/String;" ∈ AL := AL_6 (List.mem_of_getElem? (i := 97) rfl) rfl
theorem m6_98 : Cond.lays "java/lang/ArithmeticException" "java/lang/Throwable" "backtrace" "Ljava/lang/Object;" ∈ AL := AL_6 (List.mem_of_getElem? (i := 98) rfl) rfl
theorem m6_90 : Cond.classLink "HomeSystem" 85 "java/lang/ArithmeticException" ∈ AL := AL_6 (List.mem_of_getElem? (i := 90) rfl) rfl
theorem m1_32 : Cond.initialized "java/lang/ArithmeticException" ∈ AL := AL_1 (List.mem_of_getElem? (i := 32) rfl) rfl
theorem m2_91 : Cond.classLink "HomeSystem" 19 "HomeSystem$Program" ∈ AL := AL_2 (List.mem_of_getElem? (i := 91) rfl) rfl
theorem m2_93 : Cond.methodLink "HomeSystem" 21 ⟨"HomeSystem$Program", "<init>", "([I[IZ)V"⟩ ∈ AL := AL_2 (List.mem_of_getElem? (i := 93) rfl) rfl
/-! which programs there are, behind raw and text -/
def PqR (pq pq' : Nat → Option Nat) (i : Nat) (v : Int32) : Prop := (∀ j : Nat, j ≠ i → pq' j = pq j) ∧ ((v.toInt < 0 ∧ nd (pq' i) = 1) ∨ (0 ≤ v.toInt ∧ nd (pq' i) = 0))
theorem pqr_s {pq : Nat → Option Nat} {i q : Nat} {v : Int32} (h : 0 ≤ v.toInt) : PqR pq (va_up pq i (some q)) i v := ⟨fun j hj => va_up_n hj, Or.inr ⟨h, by rw [va_up_s]; exact nd_1 q⟩⟩
theorem pqr_n {pq : Nat → Option Nat} {i : Nat} {v : Int32} (h : v.toInt < 0) : PqR pq (va_up pq i none) i v := ⟨fun j hj => va_up_n hj, Or.inl ⟨h, by rw [va_up_s]; exact nd_0⟩⟩
def PqT (pq pq' : Nat → Option Nat) (i : Nat) (v : Int32) : Prop := (∀ j : Nat, j ≠ i → pq' j = pq j) ∧ ((v.toInt = 0 ∧ nd (pq' i) = 0) ∨ (v.toInt ≠ 0 ∧ nd (pq' i) = 1))
theorem pqt_s {pq : Nat → Option Nat} {i q : Nat} {v : Int32} (h : v.toInt = 0) : PqT pq (va_up pq i (some q)) i v := ⟨fun j hj => va_up_n hj, Or.inl ⟨h, by rw [va_up_s]; exact nd_1 q⟩⟩
theorem pqt_n {pq : Nat → Option Nat} {i : Nat} {v : Int32} (h : v.toInt ≠ 0) : PqT pq (va_up pq i none) i v := ⟨fun j hj => va_up_n hj, Or.inr ⟨h, by rw [va_up_s]; exact nd_0⟩⟩
abbrev b_Hs_run : ByteArray := prog_1_method_9_code
def y_Hs_run : MethodName := ⟨"HomeSystem", "run", "(IIII)I"⟩
theorem d_Hs_run_0 : decode b_Hs_run 0 = .ok (.iload_n 1, 1) := by decide +kernel
theorem d_Hs_run_1 : decode b_Hs_run 1 = .ok (.ifCond .lt 9, 3) := by decide +kernel
theorem d_Hs_run_4 : decode b_Hs_run 4 = .ok (.iload_n 1, 1) := by decide +kernel
theorem d_Hs_run_5 : decode b_Hs_run 5 = .ok (.bipush 8, 2) := by decide +kernel
theorem d_Hs_run_7 : decode b_Hs_run 7 = .ok (.if_icmp .lt 11, 3) := by decide +kernel
theorem d_Hs_run_10 : decode b_Hs_run 10 = .ok (.new 62, 3) := by decide +kernel
theorem d_Hs_run_13 : decode b_Hs_run 13 = .ok (.dup, 1) := by decide +kernel
theorem d_Hs_run_14 : decode b_Hs_run 14 = .ok (.invokespecial 64, 3) := by decide +kernel
theorem d_Hs_run_17 : decode b_Hs_run 17 = .ok (.athrow, 1) := by decide +kernel
theorem d_Hs_run_18 : decode b_Hs_run 18 = .ok (.iload_n 3, 1) := by decide +kernel
theorem d_Hs_run_19 : decode b_Hs_run 19 = .ok (.ifCond .lt 22, 3) := by decide +kernel
theorem d_Hs_run_22 : decode b_Hs_run 22 = .ok (.iload_n 3, 1) := by decide +kernel
theorem d_Hs_run_23 : decode b_Hs_run 23 = .ok (.bipush 100, 2) := by decide +kernel
theorem d_Hs_run_25 : decode b_Hs_run 25 = .ok (.if_icmp .gt 16, 3) := by decide +kernel
theorem d_Hs_run_28 : decode b_Hs_run 28 = .ok (.iload 4, 2) := by decide +kernel
theorem d_Hs_run_30 : decode b_Hs_run 30 = .ok (.ifCond .lt 11, 3) := by decide +kernel
theorem d_Hs_run_33 : decode b_Hs_run 33 = .ok (.iload 4, 2) := by decide +kernel
theorem d_Hs_run_35 : decode b_Hs_run 35 = .ok (.sipush 512, 3) := by decide +kernel
theorem d_Hs_run_38 : decode b_Hs_run 38 = .ok (.if_icmp .le 11, 3) := by decide +kernel
theorem d_Hs_run_41 : decode b_Hs_run 41 = .ok (.new 59, 3) := by decide +kernel
theorem d_Hs_run_44 : decode b_Hs_run 44 = .ok (.dup, 1) := by decide +kernel
theorem d_Hs_run_45 : decode b_Hs_run 45 = .ok (.invokespecial 61, 3) := by decide +kernel
theorem d_Hs_run_48 : decode b_Hs_run 48 = .ok (.athrow, 1) := by decide +kernel
theorem d_Hs_run_49 : decode b_Hs_run 49 = .ok (.aload_n 0, 1) := by decide +kernel
theorem d_Hs_run_50 : decode b_Hs_run 50 = .ok (.getfield 45, 3) := by decide +kernel
theorem d_Hs_run_53 : decode b_Hs_run 53 = .ok (.iload_n 3, 1) := by decide +kernel
theorem d_Hs_run_54 : decode b_Hs_run 54 = .ok (.bipush 30, 2) := by decide +kernel
theorem d_Hs_run_56 : decode b_Hs_run 56 = .ok (.iadd, 1) := by decide +kernel
theorem d_Hs_run_57 : decode b_Hs_run 57 = .ok (.if_icmp .ge 11, 3) := by decide +kernel
theorem d_Hs_run_60 : decode b_Hs_run 60 = .ok (.new 85, 3) := by decide +kernel
theorem d_Hs_run_63 : decode b_Hs_run 63 = .ok (.dup, 1) := by decide +kernel
theorem d_Hs_run_64 : decode b_Hs_run 64 = .ok (.invokespecial 87, 3) := by decide +kernel
theorem d_Hs_run_67 : decode b_Hs_run 67 = .ok (.athrow, 1) := by decide +kernel
theorem d_Hs_run_68 : decode b_Hs_run 68 = .ok (.aload_n 0, 1) := by decide +kernel
theorem d_Hs_run_69 : decode b_Hs_run 69 = .ok (.getfield 41, 3) := by decide +kernel
theorem d_Hs_run_72 : decode b_Hs_run 72 = .ok (.getfield 76, 3) := by decide +kernel
theorem d_Hs_run_75 : decode b_Hs_run 75 = .ok (.iload_n 1, 1) := by decide +kernel
theorem d_Hs_run_76 : decode b_Hs_run 76 = .ok (.aaload, 1) := by decide +kernel
theorem d_Hs_run_77 : decode b_Hs_run 77 = .ok (.ifnonnull 5, 3) := by decide +kernel
theorem d_Hs_run_80 : decode b_Hs_run 80 = .ok (.iconst (-1), 1) := by decide +kernel
theorem d_Hs_run_81 : decode b_Hs_run 81 = .ok (.ireturn, 1) := by decide +kernel
theorem d_Hs_run_82 : decode b_Hs_run 82 = .ok (.aload_n 0, 1) := by decide +kernel
theorem d_Hs_run_83 : decode b_Hs_run 83 = .ok (.dup, 1) := by decide +kernel
theorem d_Hs_run_84 : decode b_Hs_run 84 = .ok (.getfield 45, 3) := by decide +kernel
theorem d_Hs_run_87 : decode b_Hs_run 87 = .ok (.iload_n 3, 1) := by decide +kernel
theorem d_Hs_run_88 : decode b_Hs_run 88 = .ok (.bipush 30, 2) := by decide +kernel
theorem d_Hs_run_90 : decode b_Hs_run 90 = .ok (.iadd, 1) := by decide +kernel
theorem d_Hs_run_91 : decode b_Hs_run 91 = .ok (.isub, 1) := by decide +kernel
theorem d_Hs_run_92 : decode b_Hs_run 92 = .ok (.putfield 45, 3) := by decide +kernel
theorem d_Hs_run_95 : decode b_Hs_run 95 = .ok (.aload_n 0, 1) := by decide +kernel
theorem d_Hs_run_96 : decode b_Hs_run 96 = .ok (.getfield 41, 3) := by decide +kernel
theorem d_Hs_run_99 : decode b_Hs_run 99 = .ok (.iload_n 1, 1) := by decide +kernel
theorem d_Hs_run_100 : decode b_Hs_run 100 = .ok (.iload_n 2, 1) := by decide +kernel
theorem d_Hs_run_101 : decode b_Hs_run 101 = .ok (.iload_n 3, 1) := by decide +kernel
theorem d_Hs_run_102 : decode b_Hs_run 102 = .ok (.iload 4, 2) := by decide +kernel
theorem d_Hs_run_104 : decode b_Hs_run 104 = .ok (.invokevirtual 88, 3) := by decide +kernel
theorem d_Hs_run_107 : decode b_Hs_run 107 = .ok (.ireturn, 1) := by decide +kernel
theorem q_Hs_run : px_y y_Hs_run 4 := by unfold px_y; decide +kernel
set_option maxHeartbeats 4000000 in
set_option maxRecDepth 100000 in
theorem c_tg_run (l : Launch) (D : va_G) (cs : Nat → ClassId) (xh : Nat) (xt : Nat → Nat) (hc : Nat) (xa : Nat → Nat → Int32) (xf : Nat → Int32) (hk : Nat) (kr : Nat → Nat) (pq : Nat → Option Nat) (PV : Nat → Pvs) (pz : Nat → Option Nat) (tq : Nat → Option Nat) (rq : Nat → Option Nat) (kf : Nat → Int32) (ka : Nat → Nat → Int32) (TR : Nat → Nat → Nat) (TO : Nat → Option Nat) (TF : Nat → Nat → Int32) (TA : Nat → Nat → Nat → Int32) (RR : Nat → Nat → Nat) (RM : Nat → Option Nat) (RW : Nat → Option Nat) (RF : Nat → Nat → Int32) (RA : Nat → Nat → Nat → Int32) (RC : Nat → Nat → Int32) (p0 p1 p2 p3 : Int32)  (g0 : 0 ≤ (xf 5).toInt) (g1 : (xf 5).toInt ≤ 6000) (hki : KnR pq PV pz tq rq TF TA RF) (hrm : RmI rq RM) (hlf : l.flags = pinnedFlags ++ [noTraceFlag]) : TgI l y_Hs_run b_Hs_run 5 (.int) D cs 16 700 (5 * ndS 13 tq + 4 * ndS 13 rq + ndS 13 RM + 1) (9804 * ndS 13 tq + 342 * ndS 13 rq + 36864 * ndS 13 RM + 6) [.ref xh, .int p0, .int p1, .int p2, .int p3] [wd_Hs cs xh (fun k => if k = 1 then hc else if k = 2 then hk else xt k) (fun _ => none) xf xa (fun _ _ => none), wd_Ker cs hk kr (fun _ => none) kf ka (gKe pq pz tq rq), fm 13 (fTx cs tq TR TO TF TA), fm 13 (fRw cs rq RR RM RW RF RA RC), fm 8 (fPp cs pq PV)] (oX (fun A U H => (oN A U H)) [wd_Hs cs xh (fun k => if k = 1 then hc else if k = 2 then hk else xt k) (fun _ => none) xf xa (fun _ _ => none), wd_Ker cs hk kr (fun _ => none) kf ka (gKe pq pz tq rq), fm 13 (fTx cs tq TR TO TF TA), fm 13 (fRw cs rq RR RM RW RF RA RC), fm 8 (fPp cs pq PV)]) ["java/lang/IndexOutOfBoundsException", "java/lang/IllegalArgumentException", "java/lang/ArithmeticException"] (fun v ps => ∃ (xf' : Nat → Int32) (pz' : Nat → Option Nat) (tq' : Nat → Option Nat) (rq' : Nat → Option Nat) (kf' : Nat → Int32) (ka' : Nat → Nat → Int32) (TR' : Nat → Nat → Nat) (TO' : Nat → Option Nat) (TF' : Nat → Nat → Int32) (TA' : Nat → Nat → Nat → Int32) (RR' : Nat → Nat → Nat) (RM' : Nat → Option Nat) (RW' : Nat → Option Nat) (RF' : Nat → Nat → Int32) (RA' : Nat → Nat → Nat → Int32) (RC' : Nat → Nat → Int32), (ps.1 = [wd_Hs cs xh (fun k => if k = 1 then hc else if k = 2 then hk else xt k) (fun _ => none) xf' xa (fun _ _ => none), wd_Ker cs hk kr (fun _ => none) kf' ka' (gKe pq pz' tq' rq'), fm 13 (fTx cs tq' TR' TO' TF' TA'), fm 13 (fRw cs rq' RR' RM' RW' RF' RA' RC'), fm 8 (fPp cs pq PV)]) ∧ (KnR pq PV pz' tq' rq' TF' TA' RF') ∧ (RmI rq' RM') ∧ ((xf' 3).toInt = (xf 3).toInt) ∧ ((xf' 4).toInt = (xf 4).toInt) ∧ (0 ≤ (xf' 5).toInt) ∧ ((xf' 5).toInt ≤ 6000) ∧ (0 ≤ p0.toInt) ∧ (p0.toInt < 8) ∧ (0 ≤ p2.toInt) ∧ (p2.toInt ≤ 100) ∧ (0 ≤ p3.toInt) ∧ (p3.toInt ≤ 512) ∧ (p2.toInt + 30 ≤ (xf 5).toInt) ∧ ((nd (pq p0.toNatClampNeg) = 1 ∧ (xf' 5).toInt = (xf 5).toInt) ∨ (nd (pq p0.toNatClampNeg) = 0 ∧ (xf' 5).toInt = (xf 5).toInt - p2.toInt - 30)) ∧ (ps.2.1 + (5 * ndS 13 tq' + 4 * ndS 13 rq' + ndS 13 RM') ≤ 5 * ndS 13 tq + 4 * ndS 13 rq + ndS 13 RM) ∧ (ps.2.2 + (9804 * ndS 13 tq' + 342 * ndS 13 rq' + 36864 * ndS 13 RM') ≤ 9804 * ndS 13 tq + 342 * ndS 13 rq + 36864 * ndS 13 RM)) (fun ps => ps = [wd_Hs cs xh (fun k => if k = 1 then hc else if k = 2 then hk else xt k) (fun _ => none) xf xa (fun _ _ => none), wd_Ker cs hk kr (fun _ => none) kf ka (gKe pq pz tq rq), fm 13 (fTx cs tq TR TO TF TA), fm 13 (fRw cs rq RR RM RW RF RA RC), fm 8 (fPp cs pq PV)] ∧ (p0.toInt < 0 ∨ 8 ≤ p0.toInt ∨ p2.toInt < 0 ∨ 100 < p2.toInt ∨ p3.toInt < 0 ∨ 512 < p3.toInt ∨ (xf 5).toInt < p2.toInt + 30)) := by
  refine tg_enter (by decide) (Nat.le_of_ble_eq_true rfl) ?_
  intro p e s m below meth c A ls hAe S hr hlk hnm hA hT hX hw hl hxt hadm
  have hl : lv_has ls 5 [(0, .ref xh), (1, .int p0), (2, .int p1), (3, .int p2), (4, .int p3)] := hl
  have lp0 := Int32.le_toInt p0
  have up0 := Int32.toInt_lt p0
  have lp1 := Int32.le_toInt p1
  have up1 := Int32.toInt_lt p1
  have lp2 := Int32.le_toInt p2
  have up2 := Int32.toInt_lt p2
  have lp3 := Int32.le_toInt p3
  have up3 := Int32.toInt_lt p3
  have cstm1 : ((-1) : Int32).toInt = (-1) := rfl
  have cst8 : (8 : Int32).toInt = 8 := rfl
  have cst30 : (30 : Int32).toInt = 30 := rfl
  have cst100 : (100 : Int32).toInt = 100 := rfl
  have cst512 : (512 : Int32).toInt = 512 := rfl
  have hX : (fun A U H => (oN A U H)) A s s.heap := by rw [hAe]; exact hX
  have hN := hX
  have hsent := hN.sent
  have htr := Launch.traces_off hlf hadm
  refine lv_iload_n S.x S.b d_Hs_run_0 rfl (lv_at hl 1 rfl) ?_
  refine lv_if_lt (tgt := 10) S.x S.b d_Hs_run_1 (by decide) (fun c1 => ?_) (fun c1 => ?_)
  · have nc1 : p0.toInt < (0 : Int) := (i_lt (x := p0) (y := 0)).mp c1
    have hA1 : ∀ a ∈ Bundle.throwableAtoms, a.before [Value.ref xh, Value.int p0, Value.int p1, Value.int p2, Value.int p3].toArray s = true := by unfold Bundle.throwableAtoms; exact List.forall_mem_cons.mpr ⟨(S.w m1_23), List.forall_mem_cons.mpr ⟨(S.w m3_77), List.forall_mem_cons.mpr ⟨(S.w m3_86), List.forall_mem_cons.mpr ⟨(S.w m3_92), List.forall_mem_cons.mpr ⟨(S.w m3_95), List.forall_mem_cons.mpr ⟨(S.w m3_97), List.forall_mem_cons.mpr ⟨(S.w m3_78), List.forall_mem_cons.mpr ⟨(S.w m3_79), List.forall_mem_cons.mpr ⟨(S.w m1_46), List.forall_mem_cons.mpr ⟨(S.w m1_47), List.forall_mem_cons.mpr ⟨(S.w m3_80), List.forall_mem_cons.mpr ⟨(S.w m3_85), List.forall_mem_cons.mpr ⟨(S.w m3_93), List.forall_mem_cons.mpr ⟨(S.w m3_110), List.forall_mem_cons.mpr ⟨(S.w m3_67), List.forall_mem_cons.mpr ⟨(S.w m3_111), List.forall_mem_cons.mpr ⟨(S.w m3_69), List.forall_mem_cons.mpr ⟨(S.w m3_112), List.forall_mem_cons.mpr ⟨(S.w m3_71), List.forall_mem_cons.mpr ⟨(S.w m3_81), List.forall_mem_cons.mpr ⟨hN.2.1.lays, List.forall_mem_cons.mpr ⟨(S.w m3_83), List.forall_mem_cons.mpr ⟨hN.2.2.lays, List.forall_mem_cons.mpr ⟨(S.w m3_73), fun _ h => absurd h List.not_mem_nil⟩⟩⟩⟩⟩⟩⟩⟩⟩⟩⟩⟩⟩⟩⟩⟩⟩⟩⟩⟩⟩⟩⟩⟩
    have hA2 : ∀ a ∈ Bundle.chain0Atoms "java/lang/IndexOutOfBoundsException" ["java/lang/RuntimeException", "java/lang/Exception"], a.before [Value.ref xh, Value.int p0, Value.int p1, Value.int p2, Value.int p3].toArray s = true := by unfold Bundle.chain0Atoms Bundle.chain0Atoms Bundle.chain0Atoms Bundle.passAtoms; exact List.forall_mem_cons.mpr ⟨(S.w m3_166), List.forall_mem_cons.mpr ⟨(S.w m3_167), List.forall_mem_cons.mpr ⟨(S.w m3_168), List.forall_mem_cons.mpr ⟨(S.w m3_102), List.forall_mem_cons.mpr ⟨(va_Nw.use rfl (hT.2.2 _ m3_58n rfl)), List.forall_mem_cons.mpr ⟨(S.w m3_102), List.forall_mem_cons.mpr ⟨(S.w m3_103), List.forall_mem_cons.mpr ⟨(S.w m3_104), List.forall_mem_cons.mpr ⟨(S.w m3_105), List.forall_mem_cons.mpr ⟨(va_Nw.use rfl (hT.2.2 _ m3_60n rfl)), List.forall_mem_cons.mpr ⟨(S.w m3_105), List.forall_mem_cons.mpr ⟨(S.w m3_106), List.forall_mem_cons.mpr ⟨(S.w m3_107), List.forall_mem_cons.mpr ⟨(S.w m3_78), List.forall_mem_cons.mpr ⟨(va_Nw.use rfl (hT.2.2 _ m3_62n rfl)), fun _ h => absurd h List.not_mem_nil⟩⟩⟩⟩⟩⟩⟩⟩⟩⟩⟩⟩⟩⟩⟩
    have hA3 : ∀ a ∈ ([Cond.methodLink "HomeSystem" 64 ⟨"java/lang/IndexOutOfBoundsException", "<init>", "()V"⟩, Cond.instantiable "java/lang/IndexOutOfBoundsException" 6, Cond.castable "java/lang/IndexOutOfBoundsException" "java/lang/IndexOutOfBoundsException", Cond.selects "java/lang/IndexOutOfBoundsException" ⟨"java/lang/Throwable", "fillInStackTrace", "(I)Ljava/lang/Throwable;"⟩ ⟨"java/lang/Throwable", "fillInStackTrace", "(I)Ljava/lang/Throwable;"⟩, Cond.selects "java/lang/IndexOutOfBoundsException" ⟨"java/lang/Throwable", "fillInStackTrace", "()Ljava/lang/Throwable;"⟩ ⟨"java/lang/Throwable", "fillInStackTrace", "()Ljava/lang/Throwable;"⟩, Cond.lays "java/lang/IndexOutOfBoundsException" "java/lang/Throwable" "cause" "Ljava/lang/Throwable;", Cond.lays "java/lang/IndexOutOfBoundsException" "java/lang/Throwable" "stackTrace" "[Ljava/lang/StackTraceElement;", Cond.lays "java/lang/IndexOutOfBoundsException" "java/lang/Throwable" "suppressedExceptions" "Ljava/util/List;", Cond.lays "java/lang/IndexOutOfBoundsException" "java/lang/Throwable" "detailMessage" "Ljava/lang/String;", Cond.isRef (.static Bundle.tN "UNASSIGNED_STACK" Bundle.steD), Cond.isRef (.static Bundle.tN "SUPPRESSED_SENTINEL" Bundle.listD), Cond.fieldLink "java/lang/Throwable" 198 "java/lang/Throwable" "backtrace" "Ljava/lang/Object;", Cond.lays "java/lang/Throwable" "java/lang/Throwable" "backtrace" "Ljava/lang/Object;", Cond.lays "java/lang/IndexOutOfBoundsException" "java/lang/Throwable" "backtrace" "Ljava/lang/Object;"] : List Cond), a.before [Value.ref xh, Value.int p0, Value.int p1, Value.int p2, Value.int p3].toArray s = true := List.forall_mem_cons.mpr ⟨(S.w m3_165), List.forall_mem_cons.mpr ⟨(S.w m3_157), List.forall_mem_cons.mpr ⟨(va_Nw.use rfl (hT.2.2 _ m3_158n rfl)), List.forall_mem_cons.mpr ⟨(S.w m3_159), List.forall_mem_cons.mpr ⟨(S.w m3_91), List.forall_mem_cons.mpr ⟨(S.w m3_160), List.forall_mem_cons.mpr ⟨(S.w m3_161), List.forall_mem_cons.mpr ⟨(S.w m3_162), List.forall_mem_cons.mpr ⟨(S.w m3_163), List.forall_mem_cons.mpr ⟨(sent_at hsent.1), List.forall_mem_cons.mpr ⟨(sent_at hsent.2), List.forall_mem_cons.mpr ⟨(S.w m3_76), List.forall_mem_cons.mpr ⟨(S.w m3_75), List.forall_mem_cons.mpr ⟨(S.w m3_164), fun _ h => absurd h List.not_mem_nil⟩⟩⟩⟩⟩⟩⟩⟩⟩⟩⟩⟩⟩⟩
    have hat : ∀ a ∈ Bundle.ownAtoms0 "HomeSystem" 64 "java/lang/IndexOutOfBoundsException" ["java/lang/RuntimeException", "java/lang/Exception"], a.before [Value.ref xh, Value.int p0, Value.int p1, Value.int p2, Value.int p3].toArray s = true := by
      unfold Bundle.ownAtoms0
      exact fun a ha => (List.mem_append.mp ha).elim (fun ha => (List.mem_append.mp ha).elim (hA1 a) (hA2 a)) (hA3 a)
    exact tg_thr (E := "java/lang/IndexOutOfBoundsException") (show 1 ≤ (5 * ndS 13 tq + 4 * ndS 13 rq + ndS 13 RM + 1) from by first | exact oz_b07c4310f6 | omega) (show 6 ≤ (9804 * ndS 13 tq + 342 * ndS 13 rq + 36864 * ndS 13 RM + 6) from by first | exact oz_4654204a11 | omega) (tx_throw (own := "HomeSystem") (E := "java/lang/IndexOutOfBoundsException") (names := ["java/lang/RuntimeException", "java/lang/Exception"]) S.x S.b hlk htr S.own (S.w m3_156) (S.w m1_28) (by decide +kernel) (by decide +kernel) hat (hl.1.trans S.ml.symm) d_Hs_run_10 d_Hs_run_13 d_Hs_run_14 d_Hs_run_17 hxt (show 1 ≤ (5 * ndS 13 tq + 4 * ndS 13 rq + ndS 13 RM + 1) from by first | exact oz_b07c4310f6 | omega) (show 6 ≤ (9804 * ndS 13 tq + 342 * ndS 13 rq + 36864 * ndS 13 RM + 6) from by first | exact oz_4654204a11 | omega) (Nat.le_of_ble_eq_true rfl) (Nat.le_of_ble_eq_true rfl) (fun x t hW hn => ⟨x, rfl, hn⟩)) (fun x t hn hz1 hz2 => Or.inr ⟨x, _, "java/lang/IndexOutOfBoundsException", (by decide), rfl, ⟨rfl, by omega⟩, ⟨va_P.kept hw.1 (fun k y hy => hn.2.2.1 _ (hw.1 k y hy).lt), (by rw [← hAe]; exact hw.2.1)⟩, ⟨hn.2.1, fun q h1 _ => hn.2.2.1 q h1⟩, hn.2.2.2, hz1, hz2⟩)
  · have nc1 : ¬ p0.toInt < (0 : Int) := mt (i_lt (x := p0) (y := 0)).mpr c1
    refine lv_iload_n S.x S.b d_Hs_run_4 rfl (lv_at hl 1 rfl) ?_
    refine lv_bipush (v := 8) S.x S.b d_Hs_run_5 (by decide) ?_
    refine lv_icmp_lt (tgt := 18) S.x S.b d_Hs_run_7 (by decide) (fun c3 => ?_) (fun c3 => ?_)
    · have nc3 : p0.toInt < (8 : Int) := (i_lt (x := p0) (y := 8)).mp c3
      refine lv_iload_n S.x S.b d_Hs_run_18 rfl (lv_at hl 3 rfl) ?_
      refine lv_if_lt (tgt := 41) S.x S.b d_Hs_run_19 (by decide) (fun c5 => ?_) (fun c5 => ?_)
      · have nc5 : p2.toInt < (0 : Int) := (i_lt (x := p2) (y := 0)).mp c5
        have hA1 : ∀ a ∈ Bundle.throwableAtoms, a.before [Value.ref xh, Value.int p0, Value.int p1, Value.int p2, Value.int p3].toArray s = true := by unfold Bundle.throwableAtoms; exact List.forall_mem_cons.mpr ⟨(S.w m1_23), List.forall_mem_cons.mpr ⟨(S.w m3_77), List.forall_mem_cons.mpr ⟨(S.w m3_86), List.forall_mem_cons.mpr ⟨(S.w m3_92), List.forall_mem_cons.mpr ⟨(S.w m3_95), List.forall_mem_cons.mpr ⟨(S.w m3_97), List.forall_mem_cons.mpr ⟨(S.w m3_78), List.forall_mem_cons.mpr ⟨(S.w m3_79), List.forall_mem_cons.mpr ⟨(S.w m1_46), List.forall_mem_cons.mpr ⟨(S.w m1_47), List.forall_mem_cons.mpr ⟨(S.w m3_80), List.forall_mem_cons.mpr ⟨(S.w m3_85), List.forall_mem_cons.mpr ⟨(S.w m3_93), List.forall_mem_cons.mpr ⟨(S.w m3_110), List.forall_mem_cons.mpr ⟨(S.w m3_67), List.forall_mem_cons.mpr ⟨(S.w m3_111), List.forall_mem_cons.mpr ⟨(S.w m3_69), List.forall_mem_cons.mpr ⟨(S.w m3_112), List.forall_mem_cons.mpr ⟨(S.w m3_71), List.forall_mem_cons.mpr ⟨(S.w m3_81), List.forall_mem_cons.mpr ⟨hN.2.1.lays, List.forall_mem_cons.mpr ⟨(S.w m3_83), List.forall_mem_cons.mpr ⟨hN.2.2.lays, List.forall_mem_cons.mpr ⟨(S.w m3_73), fun _ h => absurd h List.not_mem_nil⟩⟩⟩⟩⟩⟩⟩⟩⟩⟩⟩⟩⟩⟩⟩⟩⟩⟩⟩⟩⟩⟩⟩⟩
        have hA2 : ∀ a ∈ Bundle.chain0Atoms "java/lang/IllegalArgumentException" ["java/lang/RuntimeException", "java/lang/Exception"], a.before [Value.ref xh, Value.int p0, Value.int p1, Value.int p2, Value.int p3].toArray s = true := by unfold Bundle.chain0Atoms Bundle.chain0Atoms Bundle.chain0Atoms Bundle.passAtoms; exact List.forall_mem_cons.mpr ⟨(S.w m3_143), List.forall_mem_cons.mpr ⟨(S.w m3_144), List.forall_mem_cons.mpr ⟨(S.w m3_145), List.forall_mem_cons.mpr ⟨(S.w m3_102), List.forall_mem_cons.mpr ⟨(va_Nw.use rfl (hT.2.2 _ m3_58n rfl)), List.forall_mem_cons.mpr ⟨(S.w m3_102), List.forall_mem_cons.mpr ⟨(S.w m3_103), List.forall_mem_cons.mpr ⟨(S.w m3_104), List.forall_mem_cons.mpr ⟨(S.w m3_105), List.forall_mem_cons.mpr ⟨(va_Nw.use rfl (hT.2.2 _ m3_60n rfl)), List.forall_mem_cons.mpr ⟨(S.w m3_105), List.forall_mem_cons.mpr ⟨(S.w m3_106), List.forall_mem_cons.mpr ⟨(S.w m3_107), List.forall_mem_cons.mpr ⟨(S.w m3_78), List.forall_mem_cons.mpr ⟨(va_Nw.use rfl (hT.2.2 _ m3_62n rfl)), fun _ h => absurd h List.not_mem_nil⟩⟩⟩⟩⟩⟩⟩⟩⟩⟩⟩⟩⟩⟩⟩
        have hA3 : ∀ a ∈ ([Cond.methodLink "HomeSystem" 61 ⟨"java/lang/IllegalArgumentException", "<init>", "()V"⟩, Cond.instantiable "java/lang/IllegalArgumentException" 6, Cond.castable "java/lang/IllegalArgumentException" "java/lang/IllegalArgumentException", Cond.selects "java/lang/IllegalArgumentException" ⟨"java/lang/Throwable", "fillInStackTrace", "(I)Ljava/lang/Throwable;"⟩ ⟨"java/lang/Throwable", "fillInStackTrace", "(I)Ljava/lang/Throwable;"⟩, Cond.selects "java/lang/IllegalArgumentException" ⟨"java/lang/Throwable", "fillInStackTrace", "()Ljava/lang/Throwable;"⟩ ⟨"java/lang/Throwable", "fillInStackTrace", "()Ljava/lang/Throwable;"⟩, Cond.lays "java/lang/IllegalArgumentException" "java/lang/Throwable" "cause" "Ljava/lang/Throwable;", Cond.lays "java/lang/IllegalArgumentException" "java/lang/Throwable" "stackTrace" "[Ljava/lang/StackTraceElement;", Cond.lays "java/lang/IllegalArgumentException" "java/lang/Throwable" "suppressedExceptions" "Ljava/util/List;", Cond.lays "java/lang/IllegalArgumentException" "java/lang/Throwable" "detailMessage" "Ljava/lang/String;", Cond.isRef (.static Bundle.tN "UNASSIGNED_STACK" Bundle.steD), Cond.isRef (.static Bundle.tN "SUPPRESSED_SENTINEL" Bundle.listD), Cond.fieldLink "java/lang/Throwable" 198 "java/lang/Throwable" "backtrace" "Ljava/lang/Object;", Cond.lays "java/lang/Throwable" "java/lang/Throwable" "backtrace" "Ljava/lang/Object;", Cond.lays "java/lang/IllegalArgumentException" "java/lang/Throwable" "backtrace" "Ljava/lang/Object;"] : List Cond), a.before [Value.ref xh, Value.int p0, Value.int p1, Value.int p2, Value.int p3].toArray s = true := List.forall_mem_cons.mpr ⟨(S.w m3_142), List.forall_mem_cons.mpr ⟨(S.w m3_134), List.forall_mem_cons.mpr ⟨(va_Nw.use rfl (hT.2.2 _ m3_135n rfl)), List.forall_mem_cons.mpr ⟨(S.w m3_136), List.forall_mem_cons.mpr ⟨(S.w m3_90), List.forall_mem_cons.mpr ⟨(S.w m3_137), List.forall_mem_cons.mpr ⟨(S.w m3_138), List.forall_mem_cons.mpr ⟨(S.w m3_139), List.forall_mem_cons.mpr ⟨(S.w m3_140), List.forall_mem_cons.mpr ⟨(sent_at hsent.1), List.forall_mem_cons.mpr ⟨(sent_at hsent.2), List.forall_mem_cons.mpr ⟨(S.w m3_76), List.forall_mem_cons.mpr ⟨(S.w m3_75), List.forall_mem_cons.mpr ⟨(S.w m3_141), fun _ h => absurd h List.not_mem_nil⟩⟩⟩⟩⟩⟩⟩⟩⟩⟩⟩⟩⟩⟩
        have hat : ∀ a ∈ Bundle.ownAtoms0 "HomeSystem" 61 "java/lang/IllegalArgumentException" ["java/lang/RuntimeException", "java/lang/Exception"], a.before [Value.ref xh, Value.int p0, Value.int p1, Value.int p2, Value.int p3].toArray s = true := by
          unfold Bundle.ownAtoms0
          exact fun a ha => (List.mem_append.mp ha).elim (fun ha => (List.mem_append.mp ha).elim (hA1 a) (hA2 a)) (hA3 a)
        exact tg_thr (E := "java/lang/IllegalArgumentException") (show 1 ≤ (5 * ndS 13 tq + 4 * ndS 13 rq + ndS 13 RM + 1) from by first | exact oz_b07c4310f6 | omega) (show 6 ≤ (9804 * ndS 13 tq + 342 * ndS 13 rq + 36864 * ndS 13 RM + 6) from by first | exact oz_4654204a11 | omega) (tx_throw (own := "HomeSystem") (E := "java/lang/IllegalArgumentException") (names := ["java/lang/RuntimeException", "java/lang/Exception"]) S.x S.b hlk htr S.own (S.w m3_133) (S.w m1_27) (by decide +kernel) (by decide +kernel) hat (hl.1.trans S.ml.symm) d_Hs_run_41 d_Hs_run_44 d_Hs_run_45 d_Hs_run_48 hxt (show 1 ≤ (5 * ndS 13 tq + 4 * ndS 13 rq + ndS 13 RM + 1) from by first | exact oz_b07c4310f6 | omega) (show 6 ≤ (9804 * ndS 13 tq + 342 * ndS 13 rq + 36864 * ndS 13 RM + 6) from by first | exact oz_4654204a11 | omega) (Nat.le_of_ble_eq_true rfl) (Nat.le_of_ble_eq_true rfl) (fun x t hW hn => ⟨x, rfl, hn⟩)) (fun x t hn hz1 hz2 => Or.inr ⟨x, _, "java/lang/IllegalArgumentException", (by decide), rfl, ⟨rfl, by omega⟩, ⟨va_P.kept hw.1 (fun k y hy => hn.2.2.1 _ (hw.1 k y hy).lt), (by rw [← hAe]; exact hw.2.1)⟩, ⟨hn.2.1, fun q h1 _ => hn.2.2.1 q h1⟩, hn.2.2.2, hz1, hz2⟩)
      · have nc5 : ¬ p2.toInt < (0 : Int) := mt (i_lt (x := p2) (y := 0)).mpr c5
        refine lv_iload_n S.x S.b d_Hs_run_22 rfl (lv_at hl 3 rfl) ?_
        refine lv_bipush (v := 100) S.x S.b d_Hs_run_23 (by decide) ?_
        refine lv_icmp_gt (tgt := 41) S.x S.b d_Hs_run_25 (by decide) (fun c7 => ?_) (fun c7 => ?_)
        · have nc7 : (100 : Int) < p2.toInt := (i_lt (x := 100) (y := p2)).mp c7
          have hA1 : ∀ a ∈ Bundle.throwableAtoms, a.before [Value.ref xh, Value.int p0, Value.int p1, Value.int p2, Value.int p3].toArray s = true := by unfold Bundle.throwableAtoms; exact List.forall_mem_cons.mpr ⟨(S.w m1_23), List.forall_mem_cons.mpr ⟨(S.w m3_77), List.forall_mem_cons.mpr ⟨(S.w m3_86), List.forall_mem_cons.mpr ⟨(S.w m3_92), List.forall_mem_cons.mpr ⟨(S.w m3_95), List.forall_mem_cons.mpr ⟨(S.w m3_97), List.forall_mem_cons.mpr ⟨(S.w m3_78), List.forall_mem_cons.mpr ⟨(S.w m3_79), List.forall_mem_cons.mpr ⟨(S.w m1_46), List.forall_mem_cons.mpr ⟨(S.w m1_47), List.forall_mem_cons.mpr ⟨(S.w m3_80), List.forall_mem_cons.mpr ⟨(S.w m3_85), List.forall_mem_cons.mpr ⟨(S.w m3_93), List.forall_mem_cons.mpr ⟨(S.w m3_110), List.forall_mem_cons.mpr ⟨(S.w m3_67), List.forall_mem_cons.mpr ⟨(S.w m3_111), List.forall_mem_cons.mpr ⟨(S.w m3_69), List.forall_mem_cons.mpr ⟨(S.w m3_112), List.forall_mem_cons.mpr ⟨(S.w m3_71), List.forall_mem_cons.mpr ⟨(S.w m3_81), List.forall_mem_cons.mpr ⟨hN.2.1.lays, List.forall_mem_cons.mpr ⟨(S.w m3_83), List.forall_mem_cons.mpr ⟨hN.2.2.lays, List.forall_mem_cons.mpr ⟨(S.w m3_73), fun _ h => absurd h List.not_mem_nil⟩⟩⟩⟩⟩⟩⟩⟩⟩⟩⟩⟩⟩⟩⟩⟩⟩⟩⟩⟩⟩⟩⟩⟩
          have hA2 : ∀ a ∈ Bundle.chain0Atoms "java/lang/IllegalArgumentException" ["java/lang/RuntimeException", "java/lang/Exception"], a.before [Value.ref xh, Value.int p0, Value.int p1, Value.int p2, Value.int p3].toArray s = true := by unfold Bundle.chain0Atoms Bundle.chain0Atoms Bundle.chain0Atoms Bundle.passAtoms; exact List.forall_mem_cons.mpr ⟨(S.w m3_143), List.forall_mem_cons.mpr ⟨(S.w m3_144), List.forall_mem_cons.mpr ⟨(S.w m3_145), List.forall_mem_cons.mpr ⟨(S.w m3_102), List.forall_mem_cons.mpr ⟨(va_Nw.use rfl (hT.2.2 _ m3_58n rfl)), List.forall_mem_cons.mpr ⟨(S.w m3_102), List.forall_mem_cons.mpr ⟨(S.w m3_103), List.forall_mem_cons.mpr ⟨(S.w m3_104), List.forall_mem_cons.mpr ⟨(S.w m3_105), List.forall_mem_cons.mpr ⟨(va_Nw.use rfl (hT.2.2 _ m3_60n rfl)), List.forall_mem_cons.mpr ⟨(S.w m3_105), List.forall_mem_cons.mpr ⟨(S.w m3_106), List.forall_mem_cons.mpr ⟨(S.w m3_107), List.forall_mem_cons.mpr ⟨(S.w m3_78), List.forall_mem_cons.mpr ⟨(va_Nw.use rfl (hT.2.2 _ m3_62n rfl)), fun _ h => absurd h List.not_mem_nil⟩⟩⟩⟩⟩⟩⟩⟩⟩⟩⟩⟩⟩⟩⟩
          have hA3 : ∀ a ∈ ([Cond.methodLink "HomeSystem" 61 ⟨"java/lang/IllegalArgumentException", "<init>", "()V"⟩, Cond.instantiable "java/lang/IllegalArgumentException" 6, Cond.castable "java/lang/IllegalArgumentException" "java/lang/IllegalArgumentException", Cond.selects "java/lang/IllegalArgumentException" ⟨"java/lang/Throwable", "fillInStackTrace", "(I)Ljava/lang/Throwable;"⟩ ⟨"java/lang/Throwable", "fillInStackTrace", "(I)Ljava/lang/Throwable;"⟩, Cond.selects "java/lang/IllegalArgumentException" ⟨"java/lang/Throwable", "fillInStackTrace", "()Ljava/lang/Throwable;"⟩ ⟨"java/lang/Throwable", "fillInStackTrace", "()Ljava/lang/Throwable;"⟩, Cond.lays "java/lang/IllegalArgumentException" "java/lang/Throwable" "cause" "Ljava/lang/Throwable;", Cond.lays "java/lang/IllegalArgumentException" "java/lang/Throwable" "stackTrace" "[Ljava/lang/StackTraceElement;", Cond.lays "java/lang/IllegalArgumentException" "java/lang/Throwable" "suppressedExceptions" "Ljava/util/List;", Cond.lays "java/lang/IllegalArgumentException" "java/lang/Throwable" "detailMessage" "Ljava/lang/String;", Cond.isRef (.static Bundle.tN "UNASSIGNED_STACK" Bundle.steD), Cond.isRef (.static Bundle.tN "SUPPRESSED_SENTINEL" Bundle.listD), Cond.fieldLink "java/lang/Throwable" 198 "java/lang/Throwable" "backtrace" "Ljava/lang/Object;", Cond.lays "java/lang/Throwable" "java/lang/Throwable" "backtrace" "Ljava/lang/Object;", Cond.lays "java/lang/IllegalArgumentException" "java/lang/Throwable" "backtrace" "Ljava/lang/Object;"] : List Cond), a.before [Value.ref xh, Value.int p0, Value.int p1, Value.int p2, Value.int p3].toArray s = true := List.forall_mem_cons.mpr ⟨(S.w m3_142), List.forall_mem_cons.mpr ⟨(S.w m3_134), List.forall_mem_cons.mpr ⟨(va_Nw.use rfl (hT.2.2 _ m3_135n rfl)), List.forall_mem_cons.mpr ⟨(S.w m3_136), List.forall_mem_cons.mpr ⟨(S.w m3_90), List.forall_mem_cons.mpr ⟨(S.w m3_137), List.forall_mem_cons.mpr ⟨(S.w m3_138), List.forall_mem_cons.mpr ⟨(S.w m3_139), List.forall_mem_cons.mpr ⟨(S.w m3_140), List.forall_mem_cons.mpr ⟨(sent_at hsent.1), List.forall_mem_cons.mpr ⟨(sent_at hsent.2), List.forall_mem_cons.mpr ⟨(S.w m3_76), List.forall_mem_cons.mpr ⟨(S.w m3_75), List.forall_mem_cons.mpr ⟨(S.w m3_141), fun _ h => absurd h List.not_mem_nil⟩⟩⟩⟩⟩⟩⟩⟩⟩⟩⟩⟩⟩⟩
          have hat : ∀ a ∈ Bundle.ownAtoms0 "HomeSystem" 61 "java/lang/IllegalArgumentException" ["java/lang/RuntimeException", "java/lang/Exception"], a.before [Value.ref xh, Value.int p0, Value.int p1, Value.int p2, Value.int p3].toArray s = true := by
            unfold Bundle.ownAtoms0
            exact fun a ha => (List.mem_append.mp ha).elim (fun ha => (List.mem_append.mp ha).elim (hA1 a) (hA2 a)) (hA3 a)
          exact tg_thr (E := "java/lang/IllegalArgumentException") (show 1 ≤ (5 * ndS 13 tq + 4 * ndS 13 rq + ndS 13 RM + 1) from by first | exact oz_b07c4310f6 | omega) (show 6 ≤ (9804 * ndS 13 tq + 342 * ndS 13 rq + 36864 * ndS 13 RM + 6) from by first | exact oz_4654204a11 | omega) (tx_throw (own := "HomeSystem") (E := "java/lang/IllegalArgumentException") (names := ["java/lang/RuntimeException", "java/lang/Exception"]) S.x S.b hlk htr S.own (S.w m3_133) (S.w m1_27) (by decide +kernel) (by decide +kernel) hat (hl.1.trans S.ml.symm) d_Hs_run_41 d_Hs_run_44 d_Hs_run_45 d_Hs_run_48 hxt (show 1 ≤ (5 * ndS 13 tq + 4 * ndS 13 rq + ndS 13 RM + 1) from by first | exact oz_b07c4310f6 | omega) (show 6 ≤ (9804 * ndS 13 tq + 342 * ndS 13 rq + 36864 * ndS 13 RM + 6) from by first | exact oz_4654204a11 | omega) (Nat.le_of_ble_eq_true rfl) (Nat.le_of_ble_eq_true rfl) (fun x t hW hn => ⟨x, rfl, hn⟩)) (fun x t hn hz1 hz2 => Or.inr ⟨x, _, "java/lang/IllegalArgumentException", (by decide), rfl, ⟨rfl, by omega⟩, ⟨va_P.kept hw.1 (fun k y hy => hn.2.2.1 _ (hw.1 k y hy).lt), (by rw [← hAe]; exact hw.2.1)⟩, ⟨hn.2.1, fun q h1 _ => hn.2.2.1 q h1⟩, hn.2.2.2, hz1, hz2⟩)
        · have nc7 : ¬ (100 : Int) < p2.toInt := mt (i_lt (x := 100) (y := p2)).mpr c7
          refine lv_iload S.x S.b d_Hs_run_28 (lv_at hl 4 rfl) ?_
          refine lv_if_lt (tgt := 41) S.x S.b d_Hs_run_30 (by decide) (fun c9 => ?_) (fun c9 => ?_)
          · have nc9 : p3.toInt < (0 : Int) := (i_lt (x := p3) (y := 0)).mp c9
            have hA1 : ∀ a ∈ Bundle.throwableAtoms, a.before [Value.ref xh, Value.int p0, Value.int p1, Value.int p2, Value.int p3].toArray s = true := by unfold Bundle.throwableAtoms; exact List.forall_mem_cons.mpr ⟨(S.w m1_23), List.forall_mem_cons.mpr ⟨(S.w m3_77), List.forall_mem_cons.mpr ⟨(S.w m3_86), List.forall_mem_cons.mpr ⟨(S.w m3_92), List.forall_mem_cons.mpr ⟨(S.w m3_95), List.forall_mem_cons.mpr ⟨(S.w m3_97), List.forall_mem_cons.mpr ⟨(S.w m3_78), List.forall_mem_cons.mpr ⟨(S.w m3_79), List.forall_mem_cons.mpr ⟨(S.w m1_46), List.forall_mem_cons.mpr ⟨(S.w m1_47), List.forall_mem_cons.mpr ⟨(S.w m3_80), List.forall_mem_cons.mpr ⟨(S.w m3_85), List.forall_mem_cons.mpr ⟨(S.w m3_93), List.forall_mem_cons.mpr ⟨(S.w m3_110), List.forall_mem_cons.mpr ⟨(S.w m3_67), List.forall_mem_cons.mpr ⟨(S.w m3_111), List.forall_mem_cons.mpr ⟨(S.w m3_69), List.forall_mem_cons.mpr ⟨(S.w m3_112), List.forall_mem_cons.mpr ⟨(S.w m3_71), List.forall_mem_cons.mpr ⟨(S.w m3_81), List.forall_mem_cons.mpr ⟨hN.2.1.lays, List.forall_mem_cons.mpr ⟨(S.w m3_83), List.forall_mem_cons.mpr ⟨hN.2.2.lays, List.forall_mem_cons.mpr ⟨(S.w m3_73), fun _ h => absurd h List.not_mem_nil⟩⟩⟩⟩⟩⟩⟩⟩⟩⟩⟩⟩⟩⟩⟩⟩⟩⟩⟩⟩⟩⟩⟩⟩
            have hA2 : ∀ a ∈ Bundle.chain0Atoms "java/lang/IllegalArgumentException" ["java/lang/RuntimeException", "java/lang/Exception"], a.before [Value.ref xh, Value.int p0, Value.int p1, Value.int p2, Value.int p3].toArray s = true := by unfold Bundle.chain0Atoms Bundle.chain0Atoms Bundle.chain0Atoms Bundle.passAtoms; exact List.forall_mem_cons.mpr ⟨(S.w m3_143), List.forall_mem_cons.mpr ⟨(S.w m3_144), List.forall_mem_cons.mpr ⟨(S.w m3_145), List.forall_mem_cons.mpr ⟨(S.w m3_102), List.forall_mem_cons.mpr ⟨(va_Nw.use rfl (hT.2.2 _ m3_58n rfl)), List.forall_mem_cons.mpr ⟨(S.w m3_102), List.forall_mem_cons.mpr ⟨(S.w m3_103), List.forall_mem_cons.mpr ⟨(S.w m3_104), List.forall_mem_cons.mpr ⟨(S.w m3_105), List.forall_mem_cons.mpr ⟨(va_Nw.use rfl (hT.2.2 _ m3_60n rfl)), List.forall_mem_cons.mpr ⟨(S.w m3_105), List.forall_mem_cons.mpr ⟨(S.w m3_106), List.forall_mem_cons.mpr ⟨(S.w m3_107), List.forall_mem_cons.mpr ⟨(S.w m3_78), List.forall_mem_cons.mpr ⟨(va_Nw.use rfl (hT.2.2 _ m3_62n rfl)), fun _ h => absurd h List.not_mem_nil⟩⟩⟩⟩⟩⟩⟩⟩⟩⟩⟩⟩⟩⟩⟩
            have hA3 : ∀ a ∈ ([Cond.methodLink "HomeSystem" 61 ⟨"java/lang/IllegalArgumentException", "<init>", "()V"⟩, Cond.instantiable "java/lang/IllegalArgumentException" 6, Cond.castable "java/lang/IllegalArgumentException" "java/lang/IllegalArgumentException", Cond.selects "java/lang/IllegalArgumentException" ⟨"java/lang/Throwable", "fillInStackTrace", "(I)Ljava/lang/Throwable;"⟩ ⟨"java/lang/Throwable", "fillInStackTrace", "(I)Ljava/lang/Throwable;"⟩, Cond.selects "java/lang/IllegalArgumentException" ⟨"java/lang/Throwable", "fillInStackTrace", "()Ljava/lang/Throwable;"⟩ ⟨"java/lang/Throwable", "fillInStackTrace", "()Ljava/lang/Throwable;"⟩, Cond.lays "java/lang/IllegalArgumentException" "java/lang/Throwable" "cause" "Ljava/lang/Throwable;", Cond.lays "java/lang/IllegalArgumentException" "java/lang/Throwable" "stackTrace" "[Ljava/lang/StackTraceElement;", Cond.lays "java/lang/IllegalArgumentException" "java/lang/Throwable" "suppressedExceptions" "Ljava/util/List;", Cond.lays "java/lang/IllegalArgumentException" "java/lang/Throwable" "detailMessage" "Ljava/lang/String;", Cond.isRef (.static Bundle.tN "UNASSIGNED_STACK" Bundle.steD), Cond.isRef (.static Bundle.tN "SUPPRESSED_SENTINEL" Bundle.listD), Cond.fieldLink "java/lang/Throwable" 198 "java/lang/Throwable" "backtrace" "Ljava/lang/Object;", Cond.lays "java/lang/Throwable" "java/lang/Throwable" "backtrace" "Ljava/lang/Object;", Cond.lays "java/lang/IllegalArgumentException" "java/lang/Throwable" "backtrace" "Ljava/lang/Object;"] : List Cond), a.before [Value.ref xh, Value.int p0, Value.int p1, Value.int p2, Value.int p3].toArray s = true := List.forall_mem_cons.mpr ⟨(S.w m3_142), List.forall_mem_cons.mpr ⟨(S.w m3_134), List.forall_mem_cons.mpr ⟨(va_Nw.use rfl (hT.2.2 _ m3_135n rfl)), List.forall_mem_cons.mpr ⟨(S.w m3_136), List.forall_mem_cons.mpr ⟨(S.w m3_90), List.forall_mem_cons.mpr ⟨(S.w m3_137), List.forall_mem_cons.mpr ⟨(S.w m3_138), List.forall_mem_cons.mpr ⟨(S.w m3_139), List.forall_mem_cons.mpr ⟨(S.w m3_140), List.forall_mem_cons.mpr ⟨(sent_at hsent.1), List.forall_mem_cons.mpr ⟨(sent_at hsent.2), List.forall_mem_cons.mpr ⟨(S.w m3_76), List.forall_mem_cons.mpr ⟨(S.w m3_75), List.forall_mem_cons.mpr ⟨(S.w m3_141), fun _ h => absurd h List.not_mem_nil⟩⟩⟩⟩⟩⟩⟩⟩⟩⟩⟩⟩⟩⟩
            have hat : ∀ a ∈ Bundle.ownAtoms0 "HomeSystem" 61 "java/lang/IllegalArgumentException" ["java/lang/RuntimeException", "java/lang/Exception"], a.before [Value.ref xh, Value.int p0, Value.int p1, Value.int p2, Value.int p3].toArray s = true := by
              unfold Bundle.ownAtoms0
              exact fun a ha => (List.mem_append.mp ha).elim (fun ha => (List.mem_append.mp ha).elim (hA1 a) (hA2 a)) (hA3 a)
            exact tg_thr (E := "java/lang/IllegalArgumentException") (show 1 ≤ (5 * ndS 13 tq + 4 * ndS 13 rq + ndS 13 RM + 1) from by first | exact oz_b07c4310f6 | omega) (show 6 ≤ (9804 * ndS 13 tq + 342 * ndS 13 rq + 36864 * ndS 13 RM + 6) from by first | exact oz_4654204a11 | omega) (tx_throw (own := "HomeSystem") (E := "java/lang/IllegalArgumentException") (names := ["java/lang/RuntimeException", "java/lang/Exception"]) S.x S.b hlk htr S.own (S.w m3_133) (S.w m1_27) (by decide +kernel) (by decide +kernel) hat (hl.1.trans S.ml.symm) d_Hs_run_41 d_Hs_run_44 d_Hs_run_45 d_Hs_run_48 hxt (show 1 ≤ (5 * ndS 13 tq + 4 * ndS 13 rq + ndS 13 RM + 1) from by first | exact oz_b07c4310f6 | omega) (show 6 ≤ (9804 * ndS 13 tq + 342 * ndS 13 rq + 36864 * ndS 13 RM + 6) from by first | exact oz_4654204a11 | omega) (Nat.le_of_ble_eq_true rfl) (Nat.le_of_ble_eq_true rfl) (fun x t hW hn => ⟨x, rfl, hn⟩)) (fun x t hn hz1 hz2 => Or.inr ⟨x, _, "java/lang/IllegalArgumentException", (by decide), rfl, ⟨rfl, by omega⟩, ⟨va_P.kept hw.1 (fun k y hy => hn.2.2.1 _ (hw.1 k y hy).lt), (by rw [← hAe]; exact hw.2.1)⟩, ⟨hn.2.1, fun q h1 _ => hn.2.2.1 q h1⟩, hn.2.2.2, hz1, hz2⟩)
          · have nc9 : ¬ p3.toInt < (0 : Int) := mt (i_lt (x := p3) (y := 0)).mpr c9
            refine lv_iload S.x S.b d_Hs_run_33 (lv_at hl 4 rfl) ?_
            refine lv_sipush (v := 512) S.x S.b d_Hs_run_35 (by decide) ?_
            refine lv_icmp_le (tgt := 49) S.x S.b d_Hs_run_38 (by decide) (fun c11 => ?_) (fun c11 => ?_)
            · have nc11 : p3.toInt ≤ (512 : Int) := (i_le (x := p3) (y := 512)).mp c11
              refine lv_aload_n S.x S.b d_Hs_run_49 rfl (lv_at hl 0 rfl) ?_
              refine px_get S k_Hs hT hw 0 0 5 (v := .int (xf 5)) rfl rfl rfl (by decide) m3_17 d_Hs_run_50 ?_
              refine lv_iload_n S.x S.b d_Hs_run_53 rfl (lv_at hl 3 rfl) ?_
              refine lv_bipush (v := 30) S.x S.b d_Hs_run_54 (by decide) ?_
              refine lv_iadd S.x S.b d_Hs_run_56 ?_
              refine lv_topi (fun z13 ez13 => ?_)
              have tz13 : z13.toInt = (p2.toInt + (30 : Int) + 2147483648) % 4294967296 - 2147483648 := by rw [ez13]; exact i_add p2 30
              have lz13 := Int32.le_toInt z13
              have uz13 := Int32.toInt_lt z13
              try replace tz13 : z13.toInt = p2.toInt + (30 : Int) := by omega
              refine lv_icmp_ge (tgt := 68) S.x S.b d_Hs_run_57 (by decide) (fun c14 => ?_) (fun c14 => ?_)
              · have nc14 : z13.toInt ≤ (xf 5).toInt := (i_le (x := z13) (y := (xf 5))).mp c14
                refine lv_aload_n S.x S.b d_Hs_run_68 rfl (lv_at hl 0 rfl) ?_
                refine px_get S k_Hs hT hw 0 0 2 (v := .ref hk) rfl rfl rfl (by decide) m3_14 d_Hs_run_69 ?_
                refine px_get S k_Ker hT hw 1 0 0 (v := .ref (kr 0)) rfl rfl rfl (by decide) m2_219 d_Hs_run_72 ?_
                refine lv_iload_n S.x S.b d_Hs_run_75 rfl (lv_at hl 1 rfl) ?_
                refine px_aald S hT hw 1 1 5 (n := 8) (f := pq) rfl rfl rfl (x := p0) (vp_in_iff.mpr (by first | exact oz_f7a52c08c8 nc1 nc3 | (constructor <;> omega))) d_Hs_run_76 ?_
                refine lq_top (fun y16 hy16 => ?_)
                refine lq_ifnonnull (x := y16) (tgt := 82) S.x S.b d_Hs_run_77 (by decide) (fun q18 c17 => ?_) (fun c17 => ?_)
                ·
                  subst c17
                  have nd0_c17 := nd_1 q18
                  have hc20 := cl_nat (x := p0) (by first | exact oz_18a5c06a28 nc1 | omega)
                  have hi20 : p0.toNatClampNeg < 8 := by first | exact oz_64f9ecd053 hc20 nc3 | omega
                  have hr20 := hy16.symm
                  have hnn20 := congrArg nd hr20
                  refine lv_aload_n S.x S.b d_Hs_run_82 rfl (lv_at hl 0 rfl) ?_
                  refine lv_dup S.x S.b d_Hs_run_83 rfl ?_
                  refine px_get S k_Hs hT hw 0 0 5 (v := .int (xf 5)) rfl rfl rfl (by decide) m3_17 d_Hs_run_84 ?_
                  refine lv_iload_n S.x S.b d_Hs_run_87 rfl (lv_at hl 3 rfl) ?_
                  refine lv_bipush (v := 30) S.x S.b d_Hs_run_88 (by decide) ?_
                  refine lv_iadd S.x S.b d_Hs_run_90 ?_
                  refine lv_topi (fun z21 ez21 => ?_)
                  have tz21 : z21.toInt = (p2.toInt + (30 : Int) + 2147483648) % 4294967296 - 2147483648 := by rw [ez21]; exact i_add p2 30
                  have lz21 := Int32.le_toInt z21
                  have uz21 := Int32.toInt_lt z21
                  try replace tz21 : z21.toInt = p2.toInt + (30 : Int) := by omega
                  refine lv_isub S.x S.b d_Hs_run_91 ?_
                  have lr22 := Int32.le_toInt (xf 5)
                  have ur22 := Int32.toInt_lt (xf 5)
                  refine lv_topi (fun z23 ez23 => ?_)
                  have tz23 : z23.toInt = ((xf 5).toInt - z21.toInt + 2147483648) % 4294967296 - 2147483648 := by rw [ez23]; exact i_sub (xf 5) z21
                  have lz23 := Int32.le_toInt z23
                  have uz23 := Int32.toInt_lt z23
                  try replace tz23 : z23.toInt = (xf 5).toInt - z21.toInt := by omega
                  refine px_put S k_Hs hT hw 0 0 5 rfl rfl (by decide) m3_17 rfl rfl rfl (Nat.le_of_ble_eq_true rfl) d_Hs_run_92 (w' := wd_Hs cs xh (fun k => if k = 1 then hc else if k = 2 then hk else xt k) (fun _ => none) (upd xf 5 z23) xa (fun _ _ => none)) (ps' := [wd_Hs cs xh (fun k => if k = 1 then hc else if k = 2 then hk else xt k) (fun _ => none) (upd xf 5 z23) xa (fun _ _ => none), wd_Ker cs hk kr (fun _ => none) kf ka (gKe pq pz tq rq), fm 13 (fTx cs tq TR TO TF TA), fm 13 (fRw cs rq RR RM RW RF RA RC), fm 8 (fPp cs pq PV)]) rfl rfl (fun H locs hw => ?_)
                  refine lv_aload_n S.x S.b d_Hs_run_95 rfl (lv_at hl 0 rfl) ?_
                  refine px_get S k_Hs hT hw 0 0 2 (v := .ref hk) rfl rfl rfl (by decide) m3_14 d_Hs_run_96 ?_
                  refine lv_iload_n S.x S.b d_Hs_run_99 rfl (lv_at hl 1 rfl) ?_
                  refine lv_iload_n S.x S.b d_Hs_run_100 rfl (lv_at hl 2 rfl) ?_
                  refine lv_iload_n S.x S.b d_Hs_run_101 rfl (lv_at hl 3 rfl) ?_
                  refine lv_iload S.x S.b d_Hs_run_102 (lv_at hl 4 rfl) ?_
                  refine pg_calli (pr := [wd_Hs cs xh (fun k => if k = 1 then hc else if k = 2 then hk else xt k) (fun _ => none) (upd xf 5 z23) xa (fun _ _ => none)]) (px_runV (As := [.int p0, .int p1, .int p2, .int p3]) (rest := []) S (c_k_boot l D cs hk kr pq PV pz tq rq kf ka TR TO TF TA RR RM RW RF RA RC p0 p1 p2 p3 q18 (show 0 ≤ p0.toInt from by first | exact oz_18a5c06a28 nc1 | omega) (show p0.toInt ≤ 7 from by first | exact oz_2516c64904 nc3 | omega) (show 0 ≤ p2.toInt from by first | exact oz_18a5c06a28 nc5 | omega) (show p2.toInt ≤ 100 from by first | exact oz_694b8e2913 nc7 | omega) hki hrm hr20 _ _) hT (pr := [wd_Hs cs xh (fun k => if k = 1 then hc else if k = 2 then hk else xt k) (fun _ => none) (upd xf 5 z23) xa (fun _ _ => none)]) (pcs := [wd_Ker cs hk kr (fun _ => none) kf ka (gKe pq pz tq rq), fm 13 (fTx cs tq TR TO TF TA), fm 13 (fRw cs rq RR RM RW RF RA RC), fm 8 (fPp cs pq PV)]) hw (px_X.tot px_X.tt) (px_recv hT hw 1 0 rfl rfl rfl) m6_108 m6_105 m6_106 m6_107 m1_19 q_Ker_boot ⟨Nat.le_of_ble_eq_true rfl, Nat.le_of_ble_eq_true rfl⟩ hl.1 rfl (Nat.le_of_ble_eq_true rfl) d_Hs_run_104 ⟨show 0 + (5 * ndS 13 tq + 4 * ndS 13 rq + ndS 13 RM) ≤ (5 * ndS 13 tq + 4 * ndS 13 rq + ndS 13 RM + 1) from (by first | exact oz_e4f123c4a8 | omega), show 0 + (9804 * ndS 13 tq + 342 * ndS 13 rq + 36864 * ndS 13 RM) ≤ (9804 * ndS 13 tq + 342 * ndS 13 rq + 36864 * ndS 13 RM + 6) from (by first | exact oz_bf332b6238 | omega)⟩) hw hA (fun v55 p54 k56 n57 H locs hp54 hw => ?_)
                  dsimp only at hp54
                  obtain ⟨pz39, tq40, rq41, kf42, ka43, TR44, TO45, TF46, TA47, RR48, RM49, RW50, RF51, RA52, RC53, rfl, e58, e59, e60, e61⟩ := hp54
                  have e58 : KnR pq PV pz39 tq40 rq41 TF46 TA47 RF51 := e58
                  have hki := e58
                  have e59 : RmI rq41 RM49 := e59
                  have hrm := e59
                  have e60 : k56 + (5 * ndS 13 tq40 + 4 * ndS 13 rq41 + ndS 13 RM49) ≤ 5 * ndS 13 tq + 4 * ndS 13 rq + ndS 13 RM := e60
                  have e61 : n57 + (9804 * ndS 13 tq40 + 342 * ndS 13 rq41 + 36864 * ndS 13 RM49) ≤ 9804 * ndS 13 tq + 342 * ndS 13 rq + 36864 * ndS 13 RM := e61
                  have hw : pw D A s.heap H locs [wd_Hs cs xh (fun k => if k = 1 then hc else if k = 2 then hk else xt k) (fun _ => none) (upd xf 5 z23) xa (fun _ _ => none), wd_Ker cs hk kr (fun _ => none) kf42 ka43 (gKe pq pz39 tq40 rq41), fm 13 (fTx cs tq40 TR44 TO45 TF46 TA47), fm 13 (fRw cs rq41 RR48 RM49 RW50 RF51 RA52 RC53), fm 8 (fPp cs pq PV)] := hw
                  have lv55 := Int32.le_toInt v55
                  have uv55 := Int32.toInt_lt v55
                  exact tg_iret (v := v55) S hr rfl hlk hAe hw (show (0 + k56) ≤ (5 * ndS 13 tq + 4 * ndS 13 rq + ndS 13 RM + 1) from by first | exact oz_c793111b82 e60 | omega) (show (0 + n57) ≤ (9804 * ndS 13 tq + 342 * ndS 13 rq + 36864 * ndS 13 RM + 6) from by first | exact oz_d41203ea2e e61 | omega) (⟨(upd xf 5 z23), pz39, tq40, rq41, kf42, ka43, TR44, TO45, TF46, TA47, RR48, RM49, RW50, RF51, RA52, RC53, rfl, (show KnR pq PV pz39 tq40 rq41 TF46 TA47 RF51 from hki), (show RmI rq41 RM49 from hrm), (show (xf 3).toInt = (xf 3).toInt from rfl), (show (xf 4).toInt = (xf 4).toInt from rfl), (show 0 ≤ z23.toInt from by first | exact oz_f58e026cf0 tz23 nc14 tz21 tz13 | omega), (show z23.toInt ≤ 6000 from by first | exact oz_f59eee2840 tz23 g1 tz21 nc5 | omega), (show 0 ≤ p0.toInt from by first | exact oz_18a5c06a28 nc1 | omega), (show p0.toInt < 8 from by first | exact oz_1ee3e81409 nc3 | omega), (show 0 ≤ p2.toInt from by first | exact oz_18a5c06a28 nc5 | omega), (show p2.toInt ≤ 100 from by first | exact oz_694b8e2913 nc7 | omega), (show 0 ≤ p3.toInt from by first | exact oz_18a5c06a28 nc9 | omega), (show p3.toInt ≤ 512 from by first | exact oz_8100819c59 nc11 | omega), (show p2.toInt + 30 ≤ (xf 5).toInt from by first | exact oz_ba45a44d1f tz13 nc14 | omega), (show (nd (pq p0.toNatClampNeg) = 1 ∧ z23.toInt = (xf 5).toInt) ∨ (nd (pq p0.toNatClampNeg) = 0 ∧ z23.toInt = (xf 5).toInt - p2.toInt - 30) from by omega), (show (0 + k56) + (5 * ndS 13 tq40 + 4 * ndS 13 rq41 + ndS 13 RM49) ≤ 5 * ndS 13 tq + 4 * ndS 13 rq + ndS 13 RM from by first | exact oz_83cb35c84f e60 | omega), (show (0 + n57) + (9804 * ndS 13 tq40 + 342 * ndS 13 rq41 + 36864 * ndS 13 RM49) ≤ 9804 * ndS 13 tq + 342 * ndS 13 rq + 36864 * ndS 13 RM from by first | exact oz_0878d13dda e61 | omega)⟩) d_Hs_run_107
                ·
                  subst c17
                  have nd0_c17 := nd_0
                  have hc62 := cl_nat (x := p0) (by first | exact oz_18a5c06a28 nc1 | omega)
                  have hi62 : p0.toNatClampNeg < 8 := by first | exact oz_64f9ecd053 hc62 nc3 | omega
                  have hr62 := hy16.symm
                  have hnn62 := congrArg nd hr62
                  refine lv_iconst (v := (-1)) S.x S.b d_Hs_run_80 (by decide) ?_
                  exact tg_iret (v := (-1)) S hr rfl hlk hAe hw (show 0 ≤ (5 * ndS 13 tq + 4 * ndS 13 rq + ndS 13 RM + 1) from by first | exact oz_2d547f59e3 | omega) (show 0 ≤ (9804 * ndS 13 tq + 342 * ndS 13 rq + 36864 * ndS 13 RM + 6) from by first | exact oz_f2ef712a79 | omega) (⟨xf, pz, tq, rq, kf, ka, TR, TO, TF, TA, RR, RM, RW, RF, RA, RC, rfl, (show KnR pq PV pz tq rq TF TA RF from hki), (show RmI rq RM from hrm), (show (xf 3).toInt = (xf 3).toInt from rfl), (show (xf 4).toInt = (xf 4).toInt from rfl), (show 0 ≤ (xf 5).toInt from by first | exact g0 | omega), (show (xf 5).toInt ≤ 6000 from by first | exact g1 | omega), (show 0 ≤ p0.toInt from by first | exact oz_18a5c06a28 nc1 | omega), (show p0.toInt < 8 from by first | exact oz_1ee3e81409 nc3 | omega), (show 0 ≤ p2.toInt from by first | exact oz_18a5c06a28 nc5 | omega), (show p2.toInt ≤ 100 from by first | exact oz_694b8e2913 nc7 | omega), (show 0 ≤ p3.toInt from by first | exact oz_18a5c06a28 nc9 | omega), (show p3.toInt ≤ 512 from by first | exact oz_8100819c59 nc11 | omega), (show p2.toInt + 30 ≤ (xf 5).toInt from by first | exact oz_ba45a44d1f tz13 nc14 | omega), (show (nd (pq p0.toNatClampNeg) = 1 ∧ (xf 5).toInt = (xf 5).toInt) ∨ (nd (pq p0.toNatClampNeg) = 0 ∧ (xf 5).toInt = (xf 5).toInt - p2.toInt - 30) from by omega), (show 0 + (5 * ndS 13 tq + 4 * ndS 13 rq + ndS 13 RM) ≤ 5 * ndS 13 tq + 4 * ndS 13 rq + ndS 13 RM from by first | exact oz_9d19b050ad | omega), (show 0 + (9804 * ndS 13 tq + 342 * ndS 13 rq + 36864 * ndS 13 RM) ≤ 9804 * ndS 13 tq + 342 * ndS 13 rq + 36864 * ndS 13 RM from by first | exact oz_b5592d0ae7 | omega)⟩) d_Hs_run_81
              · have nc14 : ¬ z13.toInt ≤ (xf 5).toInt := mt (i_le (x := z13) (y := (xf 5))).mpr c14
                have hA1 : ∀ a ∈ Bundle.throwableAtoms, a.before [Value.ref xh, Value.int p0, Value.int p1, Value.int p2, Value.int p3].toArray s = true := by unfold Bundle.throwableAtoms; exact List.forall_mem_cons.mpr ⟨(S.w m1_23), List.forall_mem_cons.mpr ⟨(S.w m3_77), List.forall_mem_cons.mpr ⟨(S.w m3_86), List.forall_mem_cons.mpr ⟨(S.w m3_92), List.forall_mem_cons.mpr ⟨(S.w m3_95), List.forall_mem_cons.mpr ⟨(S.w m3_97), List.forall_mem_cons.mpr ⟨(S.w m3_78), List.forall_mem_cons.mpr ⟨(S.w m3_79), List.forall_mem_cons.mpr ⟨(S.w m1_46), List.forall_mem_cons.mpr ⟨(S.w m1_47), List.forall_mem_cons.mpr ⟨(S.w m3_80), List.forall_mem_cons.mpr ⟨(S.w m3_85), List.forall_mem_cons.mpr ⟨(S.w m3_93), List.forall_mem_cons.mpr ⟨(S.w m3_110), List.forall_mem_cons.mpr ⟨(S.w m3_67), List.forall_mem_cons.mpr ⟨(S.w m3_111), List.forall_mem_cons.mpr ⟨(S.w m3_69), List.forall_mem_cons.mpr ⟨(S.w m3_112), List.forall_mem_cons.mpr ⟨(S.w m3_71), List.forall_mem_cons.mpr ⟨(S.w m3_81), List.forall_mem_cons.mpr ⟨hN.2.1.lays, List.forall_mem_cons.mpr ⟨(S.w m3_83), List.forall_mem_cons.mpr ⟨hN.2.2.lays, List.forall_mem_cons.mpr ⟨(S.w m3_73), fun _ h => absurd h List.not_mem_nil⟩⟩⟩⟩⟩⟩⟩⟩⟩⟩⟩⟩⟩⟩⟩⟩⟩⟩⟩⟩⟩⟩⟩⟩
                have hA2 : ∀ a ∈ Bundle.chain0Atoms "java/lang/ArithmeticException" ["java/lang/RuntimeException", "java/lang/Exception"], a.before [Value.ref xh, Value.int p0, Value.int p1, Value.int p2, Value.int p3].toArray s = true := by unfold Bundle.chain0Atoms Bundle.chain0Atoms Bundle.chain0Atoms Bundle.passAtoms; exact List.forall_mem_cons.mpr ⟨(S.w m6_100), List.forall_mem_cons.mpr ⟨(S.w m6_101), List.forall_mem_cons.mpr ⟨(S.w m6_102), List.forall_mem_cons.mpr ⟨(S.w m3_102), List.forall_mem_cons.mpr ⟨(va_Nw.use rfl (hT.2.2 _ m3_58n rfl)), List.forall_mem_cons.mpr ⟨(S.w m3_102), List.forall_mem_cons.mpr ⟨(S.w m3_103), List.forall_mem_cons.mpr ⟨(S.w m3_104), List.forall_mem_cons.mpr ⟨(S.w m3_105), List.forall_mem_cons.mpr ⟨(va_Nw.use rfl (hT.2.2 _ m3_60n rfl)), List.forall_mem_cons.mpr ⟨(S.w m3_105), List.forall_mem_cons.mpr ⟨(S.w m3_106), List.forall_mem_cons.mpr ⟨(S.w m3_107), List.forall_mem_cons.mpr ⟨(S.w m3_78), List.forall_mem_cons.mpr ⟨(va_Nw.use rfl (hT.2.2 _ m3_62n rfl)), fun _ h => absurd h List.not_mem_nil⟩⟩⟩⟩⟩⟩⟩⟩⟩⟩⟩⟩⟩⟩⟩
                have hA3 : ∀ a ∈ ([Cond.methodLink "HomeSystem" 87 ⟨"java/lang/ArithmeticException", "<init>", "()V"⟩, Cond.instantiable "java/lang/ArithmeticException" 6, Cond.castable "java/lang/ArithmeticException" "java/lang/ArithmeticException", Cond.selects "java/lang/ArithmeticException" ⟨"java/lang/Throwable", "fillInStackTrace", "(I)Ljava/lang/Throwable;"⟩ ⟨"java/lang/Throwable", "fillInStackTrace", "(I)Ljava/lang/Throwable;"⟩, Cond.selects "java/lang/ArithmeticException" ⟨"java/lang/Throwable", "fillInStackTrace", "()Ljava/lang/Throwable;"⟩ ⟨"java/lang/Throwable", "fillInStackTrace", "()Ljava/lang/Throwable;"⟩, Cond.lays "java/lang/ArithmeticException" "java/lang/Throwable" "cause" "Ljava/lang/Throwable;", Cond.lays "java/lang/ArithmeticException" "java/lang/Throwable" "stackTrace" "[Ljava/lang/StackTraceElement;", Cond.lays "java/lang/ArithmeticException" "java/lang/Throwable" "suppressedExceptions" "Ljava/util/List;", Cond.lays "java/lang/ArithmeticException" "java/lang/Throwable" "detailMessage" "Ljava/lang/String;", Cond.isRef (.static Bundle.tN "UNASSIGNED_STACK" Bundle.steD), Cond.isRef (.static Bundle.tN "SUPPRESSED_SENTINEL" Bundle.listD), Cond.fieldLink "java/lang/Throwable" 198 "java/lang/Throwable" "backtrace" "Ljava/lang/Object;", Cond.lays "java/lang/Throwable" "java/lang/Throwable" "backtrace" "Ljava/lang/Object;", Cond.lays "java/lang/ArithmeticException" "java/lang/Throwable" "backtrace" "Ljava/lang/Object;"] : List Cond), a.before [Value.ref xh, Value.int p0, Value.int p1, Value.int p2, Value.int p3].toArray s = true := List.forall_mem_cons.mpr ⟨(S.w m6_99), List.forall_mem_cons.mpr ⟨(S.w m6_91), List.forall_mem_cons.mpr ⟨(va_Nw.use rfl (hT.2.2 _ m6_92n rfl)), List.forall_mem_cons.mpr ⟨(S.w m6_93), List.forall_mem_cons.mpr ⟨(S.w m3_88), List.forall_mem_cons.mpr ⟨(S.w m6_94), List.forall_mem_cons.mpr ⟨(S.w m6_95), List.forall_mem_cons.mpr ⟨(S.w m6_96), List.forall_mem_cons.mpr ⟨(S.w m6_97), List.forall_mem_cons.mpr ⟨(sent_at hsent.1), List.forall_mem_cons.mpr ⟨(sent_at hsent.2), List.forall_mem_cons.mpr ⟨(S.w m3_76), List.forall_mem_cons.mpr ⟨(S.w m3_75), List.forall_mem_cons.mpr ⟨(S.w m6_98), fun _ h => absurd h List.not_mem_nil⟩⟩⟩⟩⟩⟩⟩⟩⟩⟩⟩⟩⟩⟩
                have hat : ∀ a ∈ Bundle.ownAtoms0 "HomeSystem" 87 "java/lang/ArithmeticException" ["java/lang/RuntimeException", "java/lang/Exception"], a.before [Value.ref xh, Value.int p0, Value.int p1, Value.int p2, Value.int p3].toArray s = true := by
                  unfold Bundle.ownAtoms0
                  exact fun a ha => (List.mem_append.mp ha).elim (fun ha => (List.mem_append.mp ha).elim (hA1 a) (hA2 a)) (hA3 a)
                exact tg_thr (E := "java/lang/ArithmeticException") (show 1 ≤ (5 * ndS 13 tq + 4 * ndS 13 rq + ndS 13 RM + 1) from by first | exact oz_b07c4310f6 | omega) (show 6 ≤ (9804 * ndS 13 tq + 342 * ndS 13 rq + 36864 * ndS 13 RM + 6) from by first | exact oz_4654204a11 | omega) (tx_throw (own := "HomeSystem") (E := "java/lang/ArithmeticException") (names := ["java/lang/RuntimeException", "java/lang/Exception"]) S.x S.b hlk htr S.own (S.w m6_90) (S.w m1_32) (by decide +kernel) (by decide +kernel) hat (hl.1.trans S.ml.symm) d_Hs_run_60 d_Hs_run_63 d_Hs_run_64 d_Hs_run_67 hxt (show 1 ≤ (5 * ndS 13 tq + 4 * ndS 13 rq + ndS 13 RM + 1) from by first | exact oz_b07c4310f6 | omega) (show 6 ≤ (9804 * ndS 13 tq + 342 * ndS 13 rq + 36864 * ndS 13 RM + 6) from by first | exact oz_4654204a11 | omega) (Nat.le_of_ble_eq_true rfl) (Nat.le_of_ble_eq_true rfl) (fun x t hW hn => ⟨x, rfl, hn⟩)) (fun x t hn hz1 hz2 => Or.inr ⟨x, _, "java/lang/ArithmeticException", (by decide), rfl, ⟨rfl, by omega⟩, ⟨va_P.kept hw.1 (fun k y hy => hn.2.2.1 _ (hw.1 k y hy).lt), (by rw [← hAe]; exact hw.2.1)⟩, ⟨hn.2.1, fun q h1 _ => hn.2.2.1 q h1⟩, hn.2.2.2, hz1, hz2⟩)
            · have nc11 : ¬ p3.toInt ≤ (512 : Int) := mt (i_le (x := p3) (y := 512)).mpr c11
              have hA1 : ∀ a ∈ Bundle.throwableAtoms, a.before [Value.ref xh, Value.int p0, Value.int p1, Value.int p2, Value.int p3].toArray s = true := by unfold Bundle.throwableAtoms; exact List.forall_mem_cons.mpr ⟨(S.w m1_23), List.forall_mem_cons.mpr ⟨(S.w m3_77), List.forall_mem_cons.mpr ⟨(S.w m3_86), List.forall_mem_cons.mpr ⟨(S.w m3_92), List.forall_mem_cons.mpr ⟨(S.w m3_95), List.forall_mem_cons.mpr ⟨(S.w m3_97), List.forall_mem_cons.mpr ⟨(S.w m3_78), List.forall_mem_cons.mpr ⟨(S.w m3_79), List.forall_mem_cons.mpr ⟨(S.w m1_46), List.forall_mem_cons.mpr ⟨(S.w m1_47), List.forall_mem_cons.mpr ⟨(S.w m3_80), List.forall_mem_cons.mpr ⟨(S.w m3_85), List.forall_mem_cons.mpr ⟨(S.w m3_93), List.forall_mem_cons.mpr ⟨(S.w m3_110), List.forall_mem_cons.mpr ⟨(S.w m3_67), List.forall_mem_cons.mpr ⟨(S.w m3_111), List.forall_mem_cons.mpr ⟨(S.w m3_69), List.forall_mem_cons.mpr ⟨(S.w m3_112), List.forall_mem_cons.mpr ⟨(S.w m3_71), List.forall_mem_cons.mpr ⟨(S.w m3_81), List.forall_mem_cons.mpr ⟨hN.2.1.lays, List.forall_mem_cons.mpr ⟨(S.w m3_83), List.forall_mem_cons.mpr ⟨hN.2.2.lays, List.forall_mem_cons.mpr ⟨(S.w m3_73), fun _ h => absurd h List.not_mem_nil⟩⟩⟩⟩⟩⟩⟩⟩⟩⟩⟩⟩⟩⟩⟩⟩⟩⟩⟩⟩⟩⟩⟩⟩
              have hA2 : ∀ a ∈ Bundle.chain0Atoms "java/lang/IllegalArgumentException" ["java/lang/RuntimeException", "java/lang/Exception"], a.before [Value.ref xh, Value.int p0, Value.int p1, Value.int p2, Value.int p3].toArray s = true := by unfold Bundle.chain0Atoms Bundle.chain0Atoms Bundle.chain0Atoms Bundle.passAtoms; exact List.forall_mem_cons.mpr ⟨(S.w m3_143), List.forall_mem_cons.mpr ⟨(S.w m3_144), List.forall_mem_cons.mpr ⟨(S.w m3_145), List.forall_mem_cons.mpr ⟨(S.w m3_102), List.forall_mem_cons.mpr ⟨(va_Nw.use rfl (hT.2.2 _ m3_58n rfl)), List.forall_mem_cons.mpr ⟨(S.w m3_102), List.forall_mem_cons.mpr ⟨(S.w m3_103), List.forall_mem_cons.mpr ⟨(S.w m3_104), List.forall_mem_cons.mpr ⟨(S.w m3_105), List.forall_mem_cons.mpr ⟨(va_Nw.use rfl (hT.2.2 _ m3_60n rfl)), List.forall_mem_cons.mpr ⟨(S.w m3_105), List.forall_mem_cons.mpr ⟨(S.w m3_106), List.forall_mem_cons.mpr ⟨(S.w m3_107), List.forall_mem_cons.mpr ⟨(S.w m3_78), List.forall_mem_cons.mpr ⟨(va_Nw.use rfl (hT.2.2 _ m3_62n rfl)), fun _ h => absurd h List.not_mem_nil⟩⟩⟩⟩⟩⟩⟩⟩⟩⟩⟩⟩⟩⟩⟩
              have hA3 : ∀ a ∈ ([Cond.methodLink "HomeSystem" 61 ⟨"java/lang/IllegalArgumentException", "<init>", "()V"⟩, Cond.instantiable "java/lang/IllegalArgumentException" 6, Cond.castable "java/lang/IllegalArgumentException" "java/lang/IllegalArgumentException", Cond.selects "java/lang/IllegalArgumentException" ⟨"java/lang/Throwable", "fillInStackTrace", "(I)Ljava/lang/Throwable;"⟩ ⟨"java/lang/Throwable", "fillInStackTrace", "(I)Ljava/lang/Throwable;"⟩, Cond.selects "java/lang/IllegalArgumentException" ⟨"java/lang/Throwable", "fillInStackTrace", "()Ljava/lang/Throwable;"⟩ ⟨"java/lang/Throwable", "fillInStackTrace", "()Ljava/lang/Throwable;"⟩, Cond.lays "java/lang/IllegalArgumentException" "java/lang/Throwable" "cause" "Ljava/lang/Throwable;", Cond.lays "java/lang/IllegalArgumentException" "java/lang/Throwable" "stackTrace" "[Ljava/lang/StackTraceElement;", Cond.lays "java/lang/IllegalArgumentException" "java/lang/Throwable" "suppressedExceptions" "Ljava/util/List;", Cond.lays "java/lang/IllegalArgumentException" "java/lang/Throwable" "detailMessage" "Ljava/lang/String;", Cond.isRef (.static Bundle.tN "UNASSIGNED_STACK" Bundle.steD), Cond.isRef (.static Bundle.tN "SUPPRESSED_SENTINEL" Bundle.listD), Cond.fieldLink "java/lang/Throwable" 198 "java/lang/Throwable" "backtrace" "Ljava/lang/Object;", Cond.lays "java/lang/Throwable" "java/lang/Throwable" "backtrace" "Ljava/lang/Object;", Cond.lays "java/lang/IllegalArgumentException" "java/lang/Throwable" "backtrace" "Ljava/lang/Object;"] : List Cond), a.before [Value.ref xh, Value.int p0, Value.int p1, Value.int p2, Value.int p3].toArray s = true := List.forall_mem_cons.mpr ⟨(S.w m3_142), List.forall_mem_cons.mpr ⟨(S.w m3_134), List.forall_mem_cons.mpr ⟨(va_Nw.use rfl (hT.2.2 _ m3_135n rfl)), List.forall_mem_cons.mpr ⟨(S.w m3_136), List.forall_mem_cons.mpr ⟨(S.w m3_90), List.forall_mem_cons.mpr ⟨(S.w m3_137), List.forall_mem_cons.mpr ⟨(S.w m3_138), List.forall_mem_cons.mpr ⟨(S.w m3_139), List.forall_mem_cons.mpr ⟨(S.w m3_140), List.forall_mem_cons.mpr ⟨(sent_at hsent.1), List.forall_mem_cons.mpr ⟨(sent_at hsent.2), List.forall_mem_cons.mpr ⟨(S.w m3_76), List.forall_mem_cons.mpr ⟨(S.w m3_75), List.forall_mem_cons.mpr ⟨(S.w m3_141), fun _ h => absurd h List.not_mem_nil⟩⟩⟩⟩⟩⟩⟩⟩⟩⟩⟩⟩⟩⟩
              have hat : ∀ a ∈ Bundle.ownAtoms0 "HomeSystem" 61 "java/lang/IllegalArgumentException" ["java/lang/RuntimeException", "java/lang/Exception"], a.before [Value.ref xh, Value.int p0, Value.int p1, Value.int p2, Value.int p3].toArray s = true := by
                unfold Bundle.ownAtoms0
                exact fun a ha => (List.mem_append.mp ha).elim (fun ha => (List.mem_append.mp ha).elim (hA1 a) (hA2 a)) (hA3 a)
              exact tg_thr (E := "java/lang/IllegalArgumentException") (show 1 ≤ (5 * ndS 13 tq + 4 * ndS 13 rq + ndS 13 RM + 1) from by first | exact oz_b07c4310f6 | omega) (show 6 ≤ (9804 * ndS 13 tq + 342 * ndS 13 rq + 36864 * ndS 13 RM + 6) from by first | exact oz_4654204a11 | omega) (tx_throw (own := "HomeSystem") (E := "java/lang/IllegalArgumentException") (names := ["java/lang/RuntimeException", "java/lang/Exception"]) S.x S.b hlk htr S.own (S.w m3_133) (S.w m1_27) (by decide +kernel) (by decide +kernel) hat (hl.1.trans S.ml.symm) d_Hs_run_41 d_Hs_run_44 d_Hs_run_45 d_Hs_run_48 hxt (show 1 ≤ (5 * ndS 13 tq + 4 * ndS 13 rq + ndS 13 RM + 1) from by first | exact oz_b07c4310f6 | omega) (show 6 ≤ (9804 * ndS 13 tq + 342 * ndS 13 rq + 36864 * ndS 13 RM + 6) from by first | exact oz_4654204a11 | omega) (Nat.le_of_ble_eq_true rfl) (Nat.le_of_ble_eq_true rfl) (fun x t hW hn => ⟨x, rfl, hn⟩)) (fun x t hn hz1 hz2 => Or.inr ⟨x, _, "java/lang/IllegalArgumentException", (by decide), rfl, ⟨rfl, by omega⟩, ⟨va_P.kept hw.1 (fun k y hy => hn.2.2.1 _ (hw.1 k y hy).lt), (by rw [← hAe]; exact hw.2.1)⟩, ⟨hn.2.1, fun q h1 _ => hn.2.2.1 q h1⟩, hn.2.2.2, hz1, hz2⟩)
    · have nc3 : ¬ p0.toInt < (8 : Int) := mt (i_lt (x := p0) (y := 8)).mpr c3
      have hA1 : ∀ a ∈ Bundle.throwableAtoms, a.before [Value.ref xh, Value.int p0, Value.int p1, Value.int p2, Value.int p3].toArray s = true := by unfold Bundle.throwableAtoms; exact List.forall_mem_cons.mpr ⟨(S.w m1_23), List.forall_mem_cons.mpr ⟨(S.w m3_77), List.forall_mem_cons.mpr ⟨(S.w m3_86), List.forall_mem_cons.mpr ⟨(S.w m3_92), List.forall_mem_cons.mpr ⟨(S.w m3_95), List.forall_mem_cons.mpr ⟨(S.w m3_97), List.forall_mem_cons.mpr ⟨(S.w m3_78), List.forall_mem_cons.mpr ⟨(S.w m3_79), List.forall_mem_cons.mpr ⟨(S.w m1_46), List.forall_mem_cons.mpr ⟨(S.w m1_47), List.forall_mem_cons.mpr ⟨(S.w m3_80), List.forall_mem_cons.mpr ⟨(S.w m3_85), List.forall_mem_cons.mpr ⟨(S.w m3_93), List.forall_mem_cons.mpr ⟨(S.w m3_110), List.forall_mem_cons.mpr ⟨(S.w m3_67), List.forall_mem_cons.mpr ⟨(S.w m3_111), List.forall_mem_cons.mpr ⟨(S.w m3_69), List.forall_mem_cons.mpr ⟨(S.w m3_112), List.forall_mem_cons.mpr ⟨(S.w m3_71), List.forall_mem_cons.mpr ⟨(S.w m3_81), List.forall_mem_cons.mpr ⟨hN.2.1.lays, List.forall_mem_cons.mpr ⟨(S.w m3_83), List.forall_mem_cons.mpr ⟨hN.2.2.lays, List.forall_mem_cons.mpr ⟨(S.w m3_73), fun _ h => absurd h List.not_mem_nil⟩⟩⟩⟩⟩⟩⟩⟩⟩⟩⟩⟩⟩⟩⟩⟩⟩⟩⟩⟩⟩⟩⟩⟩
      have hA2 : ∀ a ∈ Bundle.chain0Atoms "java/lang/IndexOutOfBoundsException" ["java/lang/RuntimeException", "java/lang/Exception"], a.before [Value.ref xh, Value.int p0, Value.int p1, Value.int p2, Value.int p3].toArray s = true := by unfold Bundle.chain0Atoms Bundle.chain0Atoms Bundle.chain0Atoms Bundle.passAtoms; exact List.forall_mem_cons.mpr ⟨(S.w m3_166), List.forall_mem_cons.mpr ⟨(S.w m3_167), List.forall_mem_cons.mpr ⟨(S.w m3_168), List.forall_mem_cons.mpr ⟨(S.w m3_102), List.forall_mem_cons.mpr ⟨(va_Nw.use rfl (hT.2.2 _ m3_58n rfl)), List.forall_mem_cons.mpr ⟨(S.w m3_102), List.forall_mem_cons.mpr ⟨(S.w m3_103), List.forall_mem_cons.mpr ⟨(S.w m3_104), List.forall_mem_cons.mpr ⟨(S.w m3_105), List.forall_mem_cons.mpr ⟨(va_Nw.use rfl (hT.2.2 _ m3_60n rfl)), List.forall_mem_cons.mpr ⟨(S.w m3_105), List.forall_mem_cons.mpr ⟨(S.w m3_106), List.forall_mem_cons.mpr ⟨(S.w m3_107), List.forall_mem_cons.mpr ⟨(S.w m3_78), List.forall_mem_cons.mpr ⟨(va_Nw.use rfl (hT.2.2 _ m3_62n rfl)), fun _ h => absurd h List.not_mem_nil⟩⟩⟩⟩⟩⟩⟩⟩⟩⟩⟩⟩⟩⟩⟩
      have hA3 : ∀ a ∈ ([Cond.methodLink "HomeSystem" 64 ⟨"java/lang/IndexOutOfBoundsException", "<init>", "()V"⟩, Cond.instantiable "java/lang/IndexOutOfBoundsException" 6, Cond.castable "java/lang/IndexOutOfBoundsException" "java/lang/IndexOutOfBoundsException", Cond.selects "java/lang/IndexOutOfBoundsException" ⟨"java/lang/Throwable", "fillInStackTrace", "(I)Ljava/lang/Throwable;"⟩ ⟨"java/lang/Throwable", "fillInStackTrace", "(I)Ljava/lang/Throwable;"⟩, Cond.selects "java/lang/IndexOutOfBoundsException" ⟨"java/lang/Throwable", "fillInStackTrace", "()Ljava/lang/Throwable;"⟩ ⟨"java/lang/Throwable", "fillInStackTrace", "()Ljava/lang/Throwable;"⟩, Cond.lays "java/lang/IndexOutOfBoundsException" "java/lang/Throwable" "cause" "Ljava/lang/Throwable;", Cond.lays "java/lang/IndexOutOfBoundsException" "java/lang/Throwable" "stackTrace" "[Ljava/lang/StackTraceElement;", Cond.lays "java/lang/IndexOutOfBoundsException" "java/lang/Throwable" "suppressedExceptions" "Ljava/util/List;", Cond.lays "java/lang/IndexOutOfBoundsException" "java/lang/Throwable" "detailMessage" "Ljava/lang/String;", Cond.isRef (.static Bundle.tN "UNASSIGNED_STACK" Bundle.steD), Cond.isRef (.static Bundle.tN "SUPPRESSED_SENTINEL" Bundle.listD), Cond.fieldLink "java/lang/Throwable" 198 "java/lang/Throwable" "backtrace" "Ljava/lang/Object;", Cond.lays "java/lang/Throwable" "java/lang/Throwable" "backtrace" "Ljava/lang/Object;", Cond.lays "java/lang/IndexOutOfBoundsException" "java/lang/Throwable" "backtrace" "Ljava/lang/Object;"] : List Cond), a.before [Value.ref xh, Value.int p0, Value.int p1, Value.int p2, Value.int p3].toArray s = true := List.forall_mem_cons.mpr ⟨(S.w m3_165), List.forall_mem_cons.mpr ⟨(S.w m3_157), List.forall_mem_cons.mpr ⟨(va_Nw.use rfl (hT.2.2 _ m3_158n rfl)), List.forall_mem_cons.mpr ⟨(S.w m3_159), List.forall_mem_cons.mpr ⟨(S.w m3_91), List.forall_mem_cons.mpr ⟨(S.w m3_160), List.forall_mem_cons.mpr ⟨(S.w m3_161), List.forall_mem_cons.mpr ⟨(S.w m3_162), List.forall_mem_cons.mpr ⟨(S.w m3_163), List.forall_mem_cons.mpr ⟨(sent_at hsent.1), List.forall_mem_cons.mpr ⟨(sent_at hsent.2), List.forall_mem_cons.mpr ⟨(S.w m3_76), List.forall_mem_cons.mpr ⟨(S.w m3_75), List.forall_mem_cons.mpr ⟨(S.w m3_164), fun _ h => absurd h List.not_mem_nil⟩⟩⟩⟩⟩⟩⟩⟩⟩⟩⟩⟩⟩⟩
      have hat : ∀ a ∈ Bundle.ownAtoms0 "HomeSystem" 64 "java/lang/IndexOutOfBoundsException" ["java/lang/RuntimeException", "java/lang/Exception"], a.before [Value.ref xh, Value.int p0, Value.int p1, Value.int p2, Value.int p3].toArray s = true := by
        unfold Bundle.ownAtoms0
        exact fun a ha => (List.mem_append.mp ha).elim (fun ha => (List.mem_append.mp ha).elim (hA1 a) (hA2 a)) (hA3 a)
      exact tg_thr (E := "java/lang/IndexOutOfBoundsException") (show 1 ≤ (5 * ndS 13 tq + 4 * ndS 13 rq + ndS 13 RM + 1) from by first | exact oz_b07c4310f6 | omega) (show 6 ≤ (9804 * ndS 13 tq + 342 * ndS 13 rq + 36864 * ndS 13 RM + 6) from by first | exact oz_4654204a11 | omega) (tx_throw (own := "HomeSystem") (E := "java/lang/IndexOutOfBoundsException") (names := ["java/lang/RuntimeException", "java/lang/Exception"]) S.x S.b hlk htr S.own (S.w m3_156) (S.w m1_28) (by decide +kernel) (by decide +kernel) hat (hl.1.trans S.ml.symm) d_Hs_run_10 d_Hs_run_13 d_Hs_run_14 d_Hs_run_17 hxt (show 1 ≤ (5 * ndS 13 tq + 4 * ndS 13 rq + ndS 13 RM + 1) from by first | exact oz_b07c4310f6 | omega) (show 6 ≤ (9804 * ndS 13 tq + 342 * ndS 13 rq + 36864 * ndS 13 RM + 6) from by first | exact oz_4654204a11 | omega) (Nat.le_of_ble_eq_true rfl) (Nat.le_of_ble_eq_true rfl) (fun x t hW hn => ⟨x, rfl, hn⟩)) (fun x t hn hz1 hz2 => Or.inr ⟨x, _, "java/lang/IndexOutOfBoundsException", (by decide), rfl, ⟨rfl, by omega⟩, ⟨va_P.kept hw.1 (fun k y hy => hn.2.2.1 _ (hw.1 k y hy).lt), (by rw [← hAe]; exact hw.2.1)⟩, ⟨hn.2.1, fun q h1 _ => hn.2.2.1 q h1⟩, hn.2.2.2, hz1, hz2⟩)
abbrev b_Hs_raw : ByteArray := prog_1_method_7_code
def y_Hs_raw : MethodName := ⟨"HomeSystem", "raw", "(I)I"⟩
theorem d_Hs_raw_0 : decode b_Hs_raw 0 = .ok (.iload_n 1, 1) := by decide +kernel
theorem d_Hs_raw_1 : decode b_Hs_raw 1 = .ok (.ifCond .lt 9, 3) := by decide +kernel
theorem d_Hs_raw_4 : decode b_Hs_raw 4 = .ok (.iload_n 1, 1) := by decide +kernel
theorem d_Hs_raw_5 : decode b_Hs_raw 5 = .ok (.bipush 8, 2) := by decide +kernel
theorem d_Hs_raw_7 : decode b_Hs_raw 7 = .ok (.if_icmp .lt 11, 3) := by decide +kernel
theorem d_Hs_raw_10 : decode b_Hs_raw 10 = .ok (.new 62, 3) := by decide +kernel
theorem d_Hs_raw_13 : decode b_Hs_raw 13 = .ok (.dup, 1) := by decide +kernel
theorem d_Hs_raw_14 : decode b_Hs_raw 14 = .ok (.invokespecial 64, 3) := by decide +kernel
theorem d_Hs_raw_17 : decode b_Hs_raw 17 = .ok (.athrow, 1) := by decide +kernel
theorem d_Hs_raw_18 : decode b_Hs_raw 18 = .ok (.aload_n 0, 1) := by decide +kernel
theorem d_Hs_raw_19 : decode b_Hs_raw 19 = .ok (.getfield 49, 3) := by decide +kernel
theorem d_Hs_raw_22 : decode b_Hs_raw 22 = .ok (.iconst 4, 1) := by decide +kernel
theorem d_Hs_raw_23 : decode b_Hs_raw 23 = .ok (.idiv, 1) := by decide +kernel
theorem d_Hs_raw_24 : decode b_Hs_raw 24 = .ok (.istore_n 2, 1) := by decide +kernel
theorem d_Hs_raw_25 : decode b_Hs_raw 25 = .ok (.aload_n 0, 1) := by decide +kernel
theorem d_Hs_raw_26 : decode b_Hs_raw 26 = .ok (.iconst 0, 1) := by decide +kernel
theorem d_Hs_raw_27 : decode b_Hs_raw 27 = .ok (.putfield 49, 3) := by decide +kernel
theorem d_Hs_raw_30 : decode b_Hs_raw 30 = .ok (.iload_n 2, 1) := by decide +kernel
theorem d_Hs_raw_31 : decode b_Hs_raw 31 = .ok (.ifCond .ne 15, 3) := by decide +kernel
theorem d_Hs_raw_34 : decode b_Hs_raw 34 = .ok (.aload_n 0, 1) := by decide +kernel
theorem d_Hs_raw_35 : decode b_Hs_raw 35 = .ok (.getfield 41, 3) := by decide +kernel
theorem d_Hs_raw_38 : decode b_Hs_raw 38 = .ok (.getfield 76, 3) := by decide +kernel
theorem d_Hs_raw_41 : decode b_Hs_raw 41 = .ok (.iload_n 1, 1) := by decide +kernel
theorem d_Hs_raw_42 : decode b_Hs_raw 42 = .ok (.aconst_null, 1) := by decide +kernel
theorem d_Hs_raw_43 : decode b_Hs_raw 43 = .ok (.aastore, 1) := by decide +kernel
theorem d_Hs_raw_44 : decode b_Hs_raw 44 = .ok (.iconst (-1), 1) := by decide +kernel
theorem d_Hs_raw_45 : decode b_Hs_raw 45 = .ok (.ireturn, 1) := by decide +kernel
theorem d_Hs_raw_46 : decode b_Hs_raw 46 = .ok (.iload_n 2, 1) := by decide +kernel
theorem d_Hs_raw_47 : decode b_Hs_raw 47 = .ok (.newarray .int, 2) := by decide +kernel
theorem d_Hs_raw_49 : decode b_Hs_raw 49 = .ok (.astore_n 3, 1) := by decide +kernel
theorem d_Hs_raw_50 : decode b_Hs_raw 50 = .ok (.iconst 0, 1) := by decide +kernel
theorem d_Hs_raw_51 : decode b_Hs_raw 51 = .ok (.istore 4, 2) := by decide +kernel
theorem d_Hs_raw_53 : decode b_Hs_raw 53 = .ok (.iload 4, 2) := by decide +kernel
theorem d_Hs_raw_55 : decode b_Hs_raw 55 = .ok (.iload_n 2, 1) := by decide +kernel
theorem d_Hs_raw_56 : decode b_Hs_raw 56 = .ok (.if_icmp .ge 77, 3) := by decide +kernel
theorem d_Hs_raw_59 : decode b_Hs_raw 59 = .ok (.iconst 4, 1) := by decide +kernel
theorem d_Hs_raw_60 : decode b_Hs_raw 60 = .ok (.iload 4, 2) := by decide +kernel
theorem d_Hs_raw_62 : decode b_Hs_raw 62 = .ok (.imul, 1) := by decide +kernel
theorem d_Hs_raw_63 : decode b_Hs_raw 63 = .ok (.istore 5, 2) := by decide +kernel
theorem d_Hs_raw_65 : decode b_Hs_raw 65 = .ok (.aload_n 3, 1) := by decide +kernel
theorem d_Hs_raw_66 : decode b_Hs_raw 66 = .ok (.iload 4, 2) := by decide +kernel
theorem d_Hs_raw_68 : decode b_Hs_raw 68 = .ok (.aload_n 0, 1) := by decide +kernel
theorem d_Hs_raw_69 : decode b_Hs_raw 69 = .ok (.getfield 9, 3) := by decide +kernel
theorem d_Hs_raw_72 : decode b_Hs_raw 72 = .ok (.iload 5, 2) := by decide +kernel
theorem d_Hs_raw_74 : decode b_Hs_raw 74 = .ok (.baload, 1) := by decide +kernel
theorem d_Hs_raw_75 : decode b_Hs_raw 75 = .ok (.sipush 255, 3) := by decide +kernel
theorem d_Hs_raw_78 : decode b_Hs_raw 78 = .ok (.iand, 1) := by decide +kernel
theorem d_Hs_raw_79 : decode b_Hs_raw 79 = .ok (.aload_n 0, 1) := by decide +kernel
theorem d_Hs_raw_80 : decode b_Hs_raw 80 = .ok (.getfield 9, 3) := by decide +kernel
theorem d_Hs_raw_83 : decode b_Hs_raw 83 = .ok (.iload 5, 2) := by decide +kernel
theorem d_Hs_raw_85 : decode b_Hs_raw 85 = .ok (.iconst 1, 1) := by decide +kernel
theorem d_Hs_raw_86 : decode b_Hs_raw 86 = .ok (.iadd, 1) := by decide +kernel
theorem d_Hs_raw_87 : decode b_Hs_raw 87 = .ok (.baload, 1) := by decide +kernel
theorem d_Hs_raw_88 : decode b_Hs_raw 88 = .ok (.sipush 255, 3) := by decide +kernel
theorem d_Hs_raw_91 : decode b_Hs_raw 91 = .ok (.iand, 1) := by decide +kernel
theorem d_Hs_raw_92 : decode b_Hs_raw 92 = .ok (.bipush 8, 2) := by decide +kernel
theorem d_Hs_raw_94 : decode b_Hs_raw 94 = .ok (.ishl, 1) := by decide +kernel
theorem d_Hs_raw_95 : decode b_Hs_raw 95 = .ok (.ior, 1) := by decide +kernel
theorem d_Hs_raw_96 : decode b_Hs_raw 96 = .ok (.aload_n 0, 1) := by decide +kernel
theorem d_Hs_raw_97 : decode b_Hs_raw 97 = .ok (.getfield 9, 3) := by decide +kernel
theorem d_Hs_raw_100 : decode b_Hs_raw 100 = .ok (.iload 5, 2) := by decide +kernel
theorem d_Hs_raw_102 : decode b_Hs_raw 102 = .ok (.iconst 2, 1) := by decide +kernel
theorem d_Hs_raw_103 : decode b_Hs_raw 103 = .ok (.iadd, 1) := by decide +kernel
theorem d_Hs_raw_104 : decode b_Hs_raw 104 = .ok (.baload, 1) := by decide +kernel
theorem d_Hs_raw_105 : decode b_Hs_raw 105 = .ok (.sipush 255, 3) := by decide +kernel
theorem d_Hs_raw_108 : decode b_Hs_raw 108 = .ok (.iand, 1) := by decide +kernel
theorem d_Hs_raw_109 : decode b_Hs_raw 109 = .ok (.bipush 16, 2) := by decide +kernel
theorem d_Hs_raw_111 : decode b_Hs_raw 111 = .ok (.ishl, 1) := by decide +kernel
theorem d_Hs_raw_112 : decode b_Hs_raw 112 = .ok (.ior, 1) := by decide +kernel
theorem d_Hs_raw_113 : decode b_Hs_raw 113 = .ok (.aload_n 0, 1) := by decide +kernel
theorem d_Hs_raw_114 : decode b_Hs_raw 114 = .ok (.getfield 9, 3) := by decide +kernel
theorem d_Hs_raw_117 : decode b_Hs_raw 117 = .ok (.iload 5, 2) := by decide +kernel
theorem d_Hs_raw_119 : decode b_Hs_raw 119 = .ok (.iconst 3, 1) := by decide +kernel
theorem d_Hs_raw_120 : decode b_Hs_raw 120 = .ok (.iadd, 1) := by decide +kernel
theorem d_Hs_raw_121 : decode b_Hs_raw 121 = .ok (.baload, 1) := by decide +kernel
theorem d_Hs_raw_122 : decode b_Hs_raw 122 = .ok (.bipush 24, 2) := by decide +kernel
theorem d_Hs_raw_124 : decode b_Hs_raw 124 = .ok (.ishl, 1) := by decide +kernel
theorem d_Hs_raw_125 : decode b_Hs_raw 125 = .ok (.ior, 1) := by decide +kernel
theorem d_Hs_raw_126 : decode b_Hs_raw 126 = .ok (.iastore, 1) := by decide +kernel
theorem d_Hs_raw_127 : decode b_Hs_raw 127 = .ok (.iinc 4 1, 3) := by decide +kernel
theorem d_Hs_raw_130 : decode b_Hs_raw 130 = .ok (.goto (-77), 3) := by decide +kernel
theorem d_Hs_raw_133 : decode b_Hs_raw 133 = .ok (.aload_n 0, 1) := by decide +kernel
theorem d_Hs_raw_134 : decode b_Hs_raw 134 = .ok (.getfield 41, 3) := by decide +kernel
theorem d_Hs_raw_137 : decode b_Hs_raw 137 = .ok (.getfield 76, 3) := by decide +kernel
theorem d_Hs_raw_140 : decode b_Hs_raw 140 = .ok (.iload_n 1, 1) := by decide +kernel
theorem d_Hs_raw_141 : decode b_Hs_raw 141 = .ok (.new 19, 3) := by decide +kernel
theorem d_Hs_raw_144 : decode b_Hs_raw 144 = .ok (.dup, 1) := by decide +kernel
theorem d_Hs_raw_145 : decode b_Hs_raw 145 = .ok (.aload_n 3, 1) := by decide +kernel
theorem d_Hs_raw_146 : decode b_Hs_raw 146 = .ok (.aconst_null, 1) := by decide +kernel
theorem d_Hs_raw_147 : decode b_Hs_raw 147 = .ok (.iconst 1, 1) := by decide +kernel
theorem d_Hs_raw_148 : decode b_Hs_raw 148 = .ok (.invokespecial 21, 3) := by decide +kernel
theorem d_Hs_raw_151 : decode b_Hs_raw 151 = .ok (.aastore, 1) := by decide +kernel
theorem d_Hs_raw_152 : decode b_Hs_raw 152 = .ok (.iload_n 2, 1) := by decide +kernel
theorem d_Hs_raw_153 : decode b_Hs_raw 153 = .ok (.ireturn, 1) := by decide +kernel
theorem q_Hs_raw : px_y y_Hs_raw 1 := by unfold px_y; decide +kernel
set_option maxHeartbeats 4000000 in
set_option maxRecDepth 100000 in
theorem c_tg_raw (l : Launch) (D : va_G) (cs : Nat → ClassId) (xh : Nat) (xt : Nat → Nat) (hc : Nat) (xa : Nat → Nat → Int32) (xf : Nat → Int32) (hk : Nat) (kr : Nat → Nat) (pz : Nat → Option Nat) (tq : Nat → Option Nat) (rq : Nat → Option Nat) (kf : Nat → Int32) (ka : Nat → Nat → Int32) (TR : Nat → Nat → Nat) (TO : Nat → Option Nat) (TF : Nat → Nat → Int32) (TA : Nat → Nat → Nat → Int32) (RR : Nat → Nat → Nat) (RM : Nat → Option Nat) (RW : Nat → Option Nat) (RF : Nat → Nat → Int32) (RA : Nat → Nat → Nat → Int32) (RC : Nat → Nat → Int32) (pq : Nat → Option Nat) (PV : Nat → Pvs) (p0 : Int32)  (g0 : 0 ≤ (xf 3).toInt) (g1 : (xf 3).toInt ≤ 2048) (hki : KnR pq PV pz tq rq TF TA RF) (hlf : l.flags = pinnedFlags ++ [noTraceFlag]) : TgI l y_Hs_raw b_Hs_raw 6 (.int) D cs 6 120 (3) (700) [.ref xh, .int p0] [wd_Hs cs xh (fun k => if k = 1 then hc else if k = 2 then hk else xt k) (fun _ => none) xf xa (fun _ _ => none), wd_Ker cs hk kr (fun _ => none) kf ka (gKe pq pz tq rq), fm 13 (fTx cs tq TR TO TF TA), fm 13 (fRw cs rq RR RM RW RF RA RC), fm 8 (fPp cs pq PV)] (oX (fun A U H => (oN A U H)) [wd_Hs cs xh (fun k => if k = 1 then hc else if k = 2 then hk else xt k) (fun _ => none) xf xa (fun _ _ => none), wd_Ker cs hk kr (fun _ => none) kf ka (gKe pq pz tq rq), fm 13 (fTx cs tq TR TO TF TA), fm 13 (fRw cs rq RR RM RW RF RA RC), fm 8 (fPp cs pq PV)]) ["java/lang/IndexOutOfBoundsException"] (fun v ps => ∃ (xf' : Nat → Int32) (pq' : Nat → Option Nat) (PV' : Nat → Pvs), (ps.1 = [wd_Hs cs xh (fun k => if k = 1 then hc else if k = 2 then hk else xt k) (fun _ => none) xf' xa (fun _ _ => none), wd_Ker cs hk kr (fun _ => none) kf ka (gKe pq' pz tq rq), fm 13 (fTx cs tq TR TO TF TA), fm 13 (fRw cs rq RR RM RW RF RA RC), fm 8 (fPp cs pq' PV')]) ∧ (KnR pq' PV' pz tq rq TF TA RF) ∧ ((xf' 3).toInt = 0) ∧ ((xf' 4).toInt = (xf 4).toInt) ∧ ((xf' 5).toInt = (xf 5).toInt) ∧ (0 ≤ p0.toInt) ∧ (p0.toInt < 8) ∧ (((xf 3).toInt < 4 ∧ v.toInt = -1) ∨ (4 ≤ (xf 3).toInt ∧ 4 * v.toInt ≤ (xf 3).toInt ∧ (xf 3).toInt < 4 * v.toInt + 4)) ∧ (PqR pq pq' p0.toNatClampNeg v) ∧ (ps.2.1 ≤ 2) ∧ (4 * (ps.2.2 : Int) ≤ (xf 3).toInt + 24)) (fun ps => ps = [wd_Hs cs xh (fun k => if k = 1 then hc else if k = 2 then hk else xt k) (fun _ => none) xf xa (fun _ _ => none), wd_Ker cs hk kr (fun _ => none) kf ka (gKe pq pz tq rq), fm 13 (fTx cs tq TR TO TF TA), fm 13 (fRw cs rq RR RM RW RF RA RC), fm 8 (fPp cs pq PV)] ∧ (p0.toInt < 0 ∨ 8 ≤ p0.toInt)) := by
  refine tg_enter (by decide) (Nat.le_of_ble_eq_true rfl) ?_
  intro p e s m below meth c A ls hAe S hr hlk hnm hA hT hX hw hl hxt hadm
  have hl : lv_has ls 6 [(0, .ref xh), (1, .int p0)] := hl
  have lp0 := Int32.le_toInt p0
  have up0 := Int32.toInt_lt p0
  have cstm1 : ((-1) : Int32).toInt = (-1) := rfl
  have cst0 : (0 : Int32).toInt = 0 := rfl
  have cst1 : (1 : Int32).toInt = 1 := rfl
  have cst2 : (2 : Int32).toInt = 2 := rfl
  have cst3 : (3 : Int32).toInt = 3 := rfl
  have cst4 : (4 : Int32).toInt = 4 := rfl
  have cst8 : (8 : Int32).toInt = 8 := rfl
  have cst16 : (16 : Int32).toInt = 16 := rfl
  have cst24 : (24 : Int32).toInt = 24 := rfl
  have cst255 : (255 : Int32).toInt = 255 := rfl
  have hX : (fun A U H => (oN A U H)) A s s.heap := by rw [hAe]; exact hX
  have hN := hX
  have hsent := hN.sent
  have htr := Launch.traces_off hlf hadm
  refine lv_iload_n S.x S.b d_Hs_raw_0 rfl (lv_at hl 1 rfl) ?_
  refine lv_if_lt (tgt := 10) S.x S.b d_Hs_raw_1 (by decide) (fun c1 => ?_) (fun c1 => ?_)
  · have nc1 : p0.toInt < (0 : Int) := (i_lt (x := p0) (y := 0)).mp c1
    have hA1 : ∀ a ∈ Bundle.throwableAtoms, a.before [Value.ref xh, Value.int p0].toArray s = true := by unfold Bundle.throwableAtoms; exact List.forall_mem_cons.mpr ⟨(S.w m1_23), List.forall_mem_cons.mpr ⟨(S.w m3_77), List.forall_mem_cons.mpr ⟨(S.w m3_86), List.forall_mem_cons.mpr ⟨(S.w m3_92), List.forall_mem_cons.mpr ⟨(S.w m3_95), List.forall_mem_cons.mpr ⟨(S.w m3_97), List.forall_mem_cons.mpr ⟨(S.w m3_78), List.forall_mem_cons.mpr ⟨(S.w m3_79), List.forall_mem_cons.mpr ⟨(S.w m1_46), List.forall_mem_cons.mpr ⟨(S.w m1_47), List.forall_mem_cons.mpr ⟨(S.w m3_80), List.forall_mem_cons.mpr ⟨(S.w m3_85), List.forall_mem_cons.mpr ⟨(S.w m3_93), List.forall_mem_cons.mpr ⟨(S.w m3_110), List.forall_mem_cons.mpr ⟨(S.w m3_67), List.forall_mem_cons.mpr ⟨(S.w m3_111), List.forall_mem_cons.mpr ⟨(S.w m3_69), List.forall_mem_cons.mpr ⟨(S.w m3_112), List.forall_mem_cons.mpr ⟨(S.w m3_71), List.forall_mem_cons.mpr ⟨(S.w m3_81), List.forall_mem_cons.mpr ⟨hN.2.1.lays, List.forall_mem_cons.mpr ⟨(S.w m3_83), List.forall_mem_cons.mpr ⟨hN.2.2.lays, List.forall_mem_cons.mpr ⟨(S.w m3_73), fun _ h => absurd h List.not_mem_nil⟩⟩⟩⟩⟩⟩⟩⟩⟩⟩⟩⟩⟩⟩⟩⟩⟩⟩⟩⟩⟩⟩⟩⟩
    have hA2 : ∀ a ∈ Bundle.chain0Atoms "java/lang/IndexOutOfBoundsException" ["java/lang/RuntimeException", "java/lang/Exception"], a.before [Value.ref xh, Value.int p0].toArray s = true := by unfold Bundle.chain0Atoms Bundle.chain0Atoms Bundle.chain0Atoms Bundle.passAtoms; exact List.forall_mem_cons.mpr ⟨(S.w m3_166), List.forall_mem_cons.mpr ⟨(S.w m3_167), List.forall_mem_cons.mpr ⟨(S.w m3_168), List.forall_mem_cons.mpr ⟨(S.w m3_102), List.forall_mem_cons.mpr ⟨(va_Nw.use rfl (hT.2.2 _ m3_58n rfl)), List.forall_mem_cons.mpr ⟨(S.w m3_102), List.forall_mem_cons.mpr ⟨(S.w m3_103), List.forall_mem_cons.mpr ⟨(S.w m3_104), List.forall_mem_cons.mpr ⟨(S.w m3_105), List.forall_mem_cons.mpr ⟨(va_Nw.use rfl (hT.2.2 _ m3_60n rfl)), List.forall_mem_cons.mpr ⟨(S.w m3_105), List.forall_mem_cons.mpr ⟨(S.w m3_106), List.forall_mem_cons.mpr ⟨(S.w m3_107), List.forall_mem_cons.mpr ⟨(S.w m3_78), List.forall_mem_cons.mpr ⟨(va_Nw.use rfl (hT.2.2 _ m3_62n rfl)), fun _ h => absurd h List.not_mem_nil⟩⟩⟩⟩⟩⟩⟩⟩⟩⟩⟩⟩⟩⟩⟩
    have hA3 : ∀ a ∈ ([Cond.methodLink "HomeSystem" 64 ⟨"java/lang/IndexOutOfBoundsException", "<init>", "()V"⟩, Cond.instantiable "java/lang/IndexOutOfBoundsException" 6, Cond.castable "java/lang/IndexOutOfBoundsException" "java/lang/IndexOutOfBoundsException", Cond.selects "java/lang/IndexOutOfBoundsException" ⟨"java/lang/Throwable", "fillInStackTrace", "(I)Ljava/lang/Throwable;"⟩ ⟨"java/lang/Throwable", "fillInStackTrace", "(I)Ljava/lang/Throwable;"⟩, Cond.selects "java/lang/IndexOutOfBoundsException" ⟨"java/lang/Throwable", "fillInStackTrace", "()Ljava/lang/Throwable;"⟩ ⟨"java/lang/Throwable", "fillInStackTrace", "()Ljava/lang/Throwable;"⟩, Cond.lays "java/lang/IndexOutOfBoundsException" "java/lang/Throwable" "cause" "Ljava/lang/Throwable;", Cond.lays "java/lang/IndexOutOfBoundsException" "java/lang/Throwable" "stackTrace" "[Ljava/lang/StackTraceElement;", Cond.lays "java/lang/IndexOutOfBoundsException" "java/lang/Throwable" "suppressedExceptions" "Ljava/util/List;", Cond.lays "java/lang/IndexOutOfBoundsException" "java/lang/Throwable" "detailMessage" "Ljava/lang/String;", Cond.isRef (.static Bundle.tN "UNASSIGNED_STACK" Bundle.steD), Cond.isRef (.static Bundle.tN "SUPPRESSED_SENTINEL" Bundle.listD), Cond.fieldLink "java/lang/Throwable" 198 "java/lang/Throwable" "backtrace" "Ljava/lang/Object;", Cond.lays "java/lang/Throwable" "java/lang/Throwable" "backtrace" "Ljava/lang/Object;", Cond.lays "java/lang/IndexOutOfBoundsException" "java/lang/Throwable" "backtrace" "Ljava/lang/Object;"] : List Cond), a.before [Value.ref xh, Value.int p0].toArray s = true := List.forall_mem_cons.mpr ⟨(S.w m3_165), List.forall_mem_cons.mpr ⟨(S.w m3_157), List.forall_mem_cons.mpr ⟨(va_Nw.use rfl (hT.2.2 _ m3_158n rfl)), List.forall_mem_cons.mpr ⟨(S.w m3_159), List.forall_mem_cons.mpr ⟨(S.w m3_91), List.forall_mem_cons.mpr ⟨(S.w m3_160), List.forall_mem_cons.mpr ⟨(S.w m3_161), List.forall_mem_cons.mpr ⟨(S.w m3_162), List.forall_mem_cons.mpr ⟨(S.w m3_163), List.forall_mem_cons.mpr ⟨(sent_at hsent.1), List.forall_mem_cons.mpr ⟨(sent_at hsent.2), List.forall_mem_cons.mpr ⟨(S.w m3_76), List.forall_mem_cons.mpr ⟨(S.w m3_75), List.forall_mem_cons.mpr ⟨(S.w m3_164), fun _ h => absurd h List.not_mem_nil⟩⟩⟩⟩⟩⟩⟩⟩⟩⟩⟩⟩⟩⟩
    have hat : ∀ a ∈ Bundle.ownAtoms0 "HomeSystem" 64 "java/lang/IndexOutOfBoundsException" ["java/lang/RuntimeException", "java/lang/Exception"], a.before [Value.ref xh, Value.int p0].toArray s = true := by
      unfold Bundle.ownAtoms0
      exact fun a ha => (List.mem_append.mp ha).elim (fun ha => (List.mem_append.mp ha).elim (hA1 a) (hA2 a)) (hA3 a)
    exact tg_thr (E := "java/lang/IndexOutOfBoundsException") (show 1 ≤ (3) from by omega) (show 6 ≤ (700) from by omega) (tx_throw (own := "HomeSystem") (E := "java/lang/IndexOutOfBoundsException") (names := ["java/lang/RuntimeException", "java/lang/Exception"]) S.x S.b hlk htr S.own (S.w m3_156) (S.w m1_28) (by decide +kernel) (by decide +kernel) hat (hl.1.trans S.ml.symm) d_Hs_raw_10 d_Hs_raw_13 d_Hs_raw_14 d_Hs_raw_17 hxt (show 1 ≤ (3) from by omega) (show 6 ≤ (700) from by omega) (Nat.le_of_ble_eq_true rfl) (Nat.le_of_ble_eq_true rfl) (fun x t hW hn => ⟨x, rfl, hn⟩)) (fun x t hn hz1 hz2 => Or.inr ⟨x, _, "java/lang/IndexOutOfBoundsException", (by decide), rfl, ⟨rfl, by omega⟩, ⟨va_P.kept hw.1 (fun k y hy => hn.2.2.1 _ (hw.1 k y hy).lt), (by rw [← hAe]; exact hw.2.1)⟩, ⟨hn.2.1, fun q h1 _ => hn.2.2.1 q h1⟩, hn.2.2.2, hz1, hz2⟩)
  · have nc1 : ¬ p0.toInt < (0 : Int) := mt (i_lt (x := p0) (y := 0)).mpr c1
    refine lv_iload_n S.x S.b d_Hs_raw_4 rfl (lv_at hl 1 rfl) ?_
    refine lv_bipush (v := 8) S.x S.b d_Hs_raw_5 (by decide) ?_
    refine lv_icmp_lt (tgt := 18) S.x S.b d_Hs_raw_7 (by decide) (fun c3 => ?_) (fun c3 => ?_)
    · have nc3 : p0.toInt < (8 : Int) := (i_lt (x := p0) (y := 8)).mp c3
      refine lv_aload_n S.x S.b d_Hs_raw_18 rfl (lv_at hl 0 rfl) ?_
      refine px_get S k_Hs hT hw 0 0 3 (v := .int (xf 3)) rfl rfl rfl (by decide) m3_15 d_Hs_raw_19 ?_
      refine lv_iconst (v := 4) S.x S.b d_Hs_raw_22 (by decide) ?_
      refine lv_idiv S.x S.b d_Hs_raw_23 (by decide) ?_
      refine lv_topi (fun z5 ez5 => ?_)
      have lz5 := Int32.le_toInt z5
      have uz5 := Int32.toInt_lt z5
      have tz5 : 0 ≤ (xf 3).toInt → z5.toInt = (xf 3).toInt / 4 := (by intro h9; rw [ez5]; exact i_idiv9 h9 (y := 4) (d := 4) (by decide) (by decide))
      try replace tz5 := tz5 (by omega)
      refine lv_istore_n (lv' := [(2, .int z5), (0, .ref xh), (1, .int p0)]) S.x S.b d_Hs_raw_24 rfl hl (by decide) rfl (fun ls hl => ?_)
      refine lv_aload_n S.x S.b d_Hs_raw_25 rfl (lv_at hl 1 rfl) ?_
      refine lv_iconst (v := 0) S.x S.b d_Hs_raw_26 (by decide) ?_
      refine px_put S k_Hs hT hw 0 0 3 rfl rfl (by decide) m3_15 rfl rfl rfl (Nat.le_of_ble_eq_true rfl) d_Hs_raw_27 (w' := wd_Hs cs xh (fun k => if k = 1 then hc else if k = 2 then hk else xt k) (fun _ => none) (upd xf 3 0) xa (fun _ _ => none)) (ps' := [wd_Hs cs xh (fun k => if k = 1 then hc else if k = 2 then hk else xt k) (fun _ => none) (upd xf 3 0) xa (fun _ _ => none), wd_Ker cs hk kr (fun _ => none) kf ka (gKe pq pz tq rq), fm 13 (fTx cs tq TR TO TF TA), fm 13 (fRw cs rq RR RM RW RF RA RC), fm 8 (fPp cs pq PV)]) rfl rfl (fun H locs hw => ?_)
      refine lv_iload_n S.x S.b d_Hs_raw_30 rfl (lv_at hl 0 rfl) ?_
      refine lv_if_ne (tgt := 46) S.x S.b d_Hs_raw_31 (by decide) (fun c6 => ?_) (fun c6 => ?_)
      · have nc6 : ¬ z5.toInt = (0 : Int) := mt (i_eq (x := z5) (y := 0)).mpr c6
        refine lv_iload_n S.x S.b d_Hs_raw_46 rfl (lv_at hl 0 rfl) ?_
        have hcl_q8 := cl_nat (x := z5) (by first | exact oz_016f458179 hcl_q8 | omega)
        refine px_newa S hT hw hA (atype := .int) m1_166 0 rfl rfl (n := z5) (N' := z5.toNatClampNeg) (a0 := (z5.toNatClampNeg, .inl (fun _ => 0))) (fun _ => rfl) (fun hq => by have := i_lt.mp hq; have : (0 : Int32).toInt = 0 := rfl; omega) rfl (show z5.toNatClampNeg * 4 ≤ 536870912 by omega) (show 0 + 1 ≤ (3) from by omega) (show 0 + z5.toNatClampNeg ≤ (700) from by omega) d_Hs_raw_47 (fun q8 H hw => ?_)
        have hw : pw D A s.heap H _ [wd_Hs cs xh (fun k => if k = 1 then hc else if k = 2 then hk else xt k) (fun _ => none) (upd xf 3 0) xa (fun _ _ => none), wd_Ker cs hk kr (fun _ => none) kf ka (gKe pq pz tq rq), fm 13 (fTx cs tq TR TO TF TA), fm 13 (fRw cs rq RR RM RW RF RA RC), fm 8 (fPp cs pq PV), [(q8, .inl (cs 0, z5.toNatClampNeg, .inl (fun _ => 0)))]] := hw
        refine lv_astore_n (lv' := [(3, .ref q8), (2, .int z5), (0, .ref xh), (1, .int p0)]) S.x S.b d_Hs_raw_49 rfl hl (by decide) rfl (fun ls hl => ?_)
        refine lv_iconst (v := 0) S.x S.b d_Hs_raw_50 (by decide) ?_
        refine lv_istore (lv' := [(4, .int 0), (3, .ref q8), (2, .int z5), (0, .ref xh), (1, .int p0)]) S.x S.b d_Hs_raw_51 hl (by decide) rfl (fun ls hl => ?_)
        have J53 : ∀ (n_53 : Nat) (ce_53 sl_53 : Nat) (xf_53 : Nat → Int32) (hq9_53 : Nat) (cw9_53 : Nat → Int32) (x53_4 : Int32) (H : Heap) (locs : List Loc) (ls : Array Slot), ((xf_53 3).toInt = 0) → ((xf_53 4).toInt = (xf 4).toInt) → ((xf_53 5).toInt = (xf 5).toInt) → (0 ≤ x53_4.toInt) → (x53_4.toInt ≤ z5.toInt) → ((ce_53 : Int) = 1) → ((sl_53 : Int) = z5.toInt) → z5.toInt - x53_4.toInt < (n_53 : Int) → pw D A s.heap H locs [wd_Hs cs xh (fun k => if k = 1 then hc else if k = 2 then hk else xt k) (fun _ => none) xf_53 xa (fun _ _ => none), wd_Ker cs hk kr (fun _ => none) kf ka (gKe pq pz tq rq), fm 13 (fTx cs tq TR TO TF TA), fm 13 (fRw cs rq RR RM RW RF RA RC), fm 8 (fPp cs pq PV), [(hq9_53, .inl (cs 0, z5.toNatClampNeg, .inl cw9_53))]] → lv_has ls 6 [(0, .ref xh), (1, .int p0), (2, .int z5), (3, .ref hq9_53), (4, .int x53_4)] → W p l e { frames := 6, cells := (3), slots := (700), locals := 120 } s m [.ref xh, .int p0].toArray below meth c H locs ce_53 sl_53 (tx_MQ below (tgQi D (va_A ([wd_Hs cs xh (fun k => if k = 1 then hc else if k = 2 then hk else xt k) (fun _ => none) xf xa (fun _ _ => none), wd_Ker cs hk kr (fun _ => none) kf ka (gKe pq pz tq rq), fm 13 (fTx cs tq TR TO TF TA), fm 13 (fRw cs rq RR RM RW RF RA RC), fm 8 (fPp cs pq PV)] : List va_W).flatten s.heap.size) ["java/lang/IndexOutOfBoundsException"] (fun v ps => ∃ (xf' : Nat → Int32) (pq' : Nat → Option Nat) (PV' : Nat → Pvs), (ps.1 = [wd_Hs cs xh (fun k => if k = 1 then hc else if k = 2 then hk else xt k) (fun _ => none) xf' xa (fun _ _ => none), wd_Ker cs hk kr (fun _ => none) kf ka (gKe pq' pz tq rq), fm 13 (fTx cs tq TR TO TF TA), fm 13 (fRw cs rq RR RM RW RF RA RC), fm 8 (fPp cs pq' PV')]) ∧ (KnR pq' PV' pz tq rq TF TA RF) ∧ ((xf' 3).toInt = 0) ∧ ((xf' 4).toInt = (xf 4).toInt) ∧ ((xf' 5).toInt = (xf 5).toInt) ∧ (0 ≤ p0.toInt) ∧ (p0.toInt < 8) ∧ (((xf 3).toInt < 4 ∧ v.toInt = -1) ∨ (4 ≤ (xf 3).toInt ∧ 4 * v.toInt ≤ (xf 3).toInt ∧ (xf 3).toInt < 4 * v.toInt + 4)) ∧ (PqR pq pq' p0.toNatClampNeg v) ∧ (ps.2.1 ≤ 2) ∧ (4 * (ps.2.2 : Int) ≤ (xf 3).toInt + 24)) (fun ps => ps = [wd_Hs cs xh (fun k => if k = 1 then hc else if k = 2 then hk else xt k) (fun _ => none) xf xa (fun _ _ => none), wd_Ker cs hk kr (fun _ => none) kf ka (gKe pq pz tq rq), fm 13 (fTx cs tq TR TO TF TA), fm 13 (fRw cs rq RR RM RW RF RA RC), fm 8 (fPp cs pq PV)] ∧ (p0.toInt < 0 ∨ 8 ≤ p0.toInt)) s.heap.size (tot s.heap)) [.ref xh, .int p0].toArray s (3) (700) A) (F0 m 53 ls []) := by
          intro  n_53
          induction n_53 with
          | zero =>
            intro ce_53 sl_53 xf_53 hq9_53 cw9_53 x53_4 H locs ls k53_0 k53_1 k53_2 k53_3 k53_4 k53_5 k53_6 hm hw hl
            have lx53_4 := Int32.le_toInt x53_4
            have ux53_4 := Int32.toInt_lt x53_4
            exact absurd hm (by omega)
          | succ n_53 ih53 =>
            intro ce_53 sl_53 xf_53 hq9_53 cw9_53 x53_4 H locs ls k53_0 k53_1 k53_2 k53_3 k53_4 k53_5 k53_6 hm hw hl
            have lx53_4 := Int32.le_toInt x53_4
            have ux53_4 := Int32.toInt_lt x53_4
            refine lv_iload S.x S.b d_Hs_raw_53 (lv_at hl 4 rfl) ?_
            refine lv_iload_n S.x S.b d_Hs_raw_55 rfl (lv_at hl 2 rfl) ?_
            refine lv_icmp_ge (tgt := 133) S.x S.b d_Hs_raw_56 (by decide) (fun c9 => ?_) (fun c9 => ?_)
            · have nc9 : z5.toInt ≤ x53_4.toInt := (i_le (x := z5) (y := x53_4)).mp c9
              refine lv_aload_n S.x S.b d_Hs_raw_133 rfl (lv_at hl 0 rfl) ?_
              refine px_get S k_Hs hT hw 0 0 2 (v := .ref hk) rfl rfl rfl (by decide) m3_14 d_Hs_raw_134 ?_
              refine px_get S k_Ker hT hw 1 0 0 (v := .ref (kr 0)) rfl rfl rfl (by decide) m2_219 d_Hs_raw_137 ?_
              refine lv_iload_n S.x S.b d_Hs_raw_140 rfl (lv_at hl 1 rfl) ?_
              refine px_new S k_Prg hT hw hA m2_91 m2_92 m1_16 (fs := [.int 0, .null, .null, .int 0, .int 0, .int 0]) (by decide +kernel) (show ce_53 + 1 ≤ (3) from by first | exact oz_5b4d909413 k53_5 | omega) (show sl_53 + 6 ≤ (700) from by omega) d_Hs_raw_141 (fun q11 H hw => ?_)
              have hw : pw D A s.heap H _ [wd_Hs cs xh (fun k => if k = 1 then hc else if k = 2 then hk else xt k) (fun _ => none) xf_53 xa (fun _ _ => none), wd_Ker cs hk kr (fun _ => none) kf ka (gKe pq pz tq rq), fm 13 (fTx cs tq TR TO TF TA), fm 13 (fRw cs rq RR RM RW RF RA RC), fm 8 (fPp cs pq PV), [(hq9_53, .inl (cs 0, z5.toNatClampNeg, .inl cw9_53))], [(q11, .inr (4, [.int 0, .null, .null, .int 0, .int 0, .int 0]))]] := hw
              refine lv_dup S.x S.b d_Hs_raw_144 rfl ?_
              refine lv_aload_n S.x S.b d_Hs_raw_145 rfl (lv_at hl 3 rfl) ?_
              refine lv_null S.x S.b d_Hs_raw_146 ?_
              refine lv_iconst (v := 1) S.x S.b d_Hs_raw_147 (by decide) ?_
              refine px_callv (pr := [wd_Hs cs xh (fun k => if k = 1 then hc else if k = 2 then hk else xt k) (fun _ => none) xf_53 xa (fun _ _ => none), wd_Ker cs hk kr (fun _ => none) kf ka (gKe pq pz tq rq), fm 13 (fTx cs tq TR TO TF TA), fm 13 (fRw cs rq RR RM RW RF RA RC), fm 8 (fPp cs pq PV), [(hq9_53, .inl (cs 0, z5.toNatClampNeg, .inl cw9_53))]]) (px_runI (As := [.ref hq9_53, .null, .int 1]) (rest := [.ref q11, .int p0, .ref (kr 0)]) S (c_Prg_init_11 l D cs q11 hq9_53 _) hT (pr := [wd_Hs cs xh (fun k => if k = 1 then hc else if k = 2 then hk else xt k) (fun _ => none) xf_53 xa (fun _ _ => none), wd_Ker cs hk kr (fun _ => none) kf ka (gKe pq pz tq rq), fm 13 (fTx cs tq TR TO TF TA), fm 13 (fRw cs rq RR RM RW RF RA RC), fm 8 (fPp cs pq PV), [(hq9_53, .inl (cs 0, z5.toNatClampNeg, .inl cw9_53))]]) (pcs := [[(q11, .inr (4, [.int 0, .null, .null, .int 0, .int 0, .int 0]))]]) hw px_X.tt m2_95 m2_93 m2_94 m1_16 rfl q_Prg_init ⟨Nat.le_of_ble_eq_true rfl, Nat.le_of_ble_eq_true rfl⟩ hl.1 rfl (Nat.le_of_ble_eq_true rfl) d_Hs_raw_148 ⟨show (ce_53 + 1) + 0 ≤ (3) from (by first | exact oz_6cfa0b61d6 k53_5 | omega), show (sl_53 + 6) + 0 ≤ (700) from by omega⟩) hw hA (fun p12 H locs hp12 hw => ?_)
              subst hp12
              have hw : pw D A s.heap H locs [wd_Hs cs xh (fun k => if k = 1 then hc else if k = 2 then hk else xt k) (fun _ => none) xf_53 xa (fun _ _ => none), wd_Ker cs hk kr (fun _ => none) kf ka (gKe pq pz tq rq), fm 13 (fTx cs tq TR TO TF TA), fm 13 (fRw cs rq RR RM RW RF RA RC), fm 8 (fPp cs pq PV), [(hq9_53, .inl (cs 0, z5.toNatClampNeg, .inl cw9_53))], [(q11, .inr (4, [.int 1, .ref hq9_53, .null, .int 0, .int 0, .int 0]))]] := hw
              have hc14 := cl_nat (x := p0) (by first | exact oz_18a5c06a28 nc1 | omega)
              have hi14 : p0.toNatClampNeg < 8 := by first | exact oz_64f9ecd053 hc14 nc3 | omega
              refine px_aast S hT hw 1 1 5 6 0 (n := 8) (f := pq) rfl rfl rfl rfl rfl rfl (x := p0) (vp_in_iff.mpr (by first | exact oz_f7a52c08c8 nc1 nc3 | (constructor <;> omega))) d_Hs_raw_151 (w' := wd_Ker cs hk kr (fun _ => none) kf ka (gKe (va_up pq p0.toNatClampNeg (some q11)) pz tq rq)) (ps' := [wd_Hs cs xh (fun k => if k = 1 then hc else if k = 2 then hk else xt k) (fun _ => none) xf_53 xa (fun _ _ => none), wd_Ker cs hk kr (fun _ => none) kf ka (gKe (va_up pq p0.toNatClampNeg (some q11)) pz tq rq), fm 13 (fTx cs tq TR TO TF TA), fm 13 (fRw cs rq RR RM RW RF RA RC), fm 8 (fPp cs pq PV), [(hq9_53, .inl (cs 0, z5.toNatClampNeg, .inl cw9_53))], [(q11, .inr (4, [.int 1, .ref hq9_53, .null, .int 0, .int 0, .int 0]))]]) rfl rfl (fun H locs hw => ?_)
              refine lv_iload_n S.x S.b d_Hs_raw_152 rfl (lv_at hl 2 rfl) ?_
              have hw : pw D A s.heap _ _ [wd_Hs cs xh (fun k => if k = 1 then hc else if k = 2 then hk else xt k) (fun _ => none) xf_53 xa (fun _ _ => none), wd_Ker cs hk kr (fun _ => none) kf ka (gKe (va_up pq p0.toNatClampNeg (some q11)) pz tq rq), fm 13 (fTx cs tq TR TO TF TA), fm 13 (fRw cs rq RR RM RW RF RA RC), fm 8 (fPp cs pq PV), [(q11, .inr (4, [.int 1, .ref hq9_53, .null, .int 0, .int 0, .int 0]))], [(hq9_53, .inl (cs 0, z5.toNatClampNeg, .inl cw9_53))]] := hw.sub [0, 1, 2, 3, 4, 6, 5] rfl rfl
              have hw : pw D A s.heap _ _ ([wd_Hs cs xh (fun k => if k = 1 then hc else if k = 2 then hk else xt k) (fun _ => none) xf_53 xa (fun _ _ => none), wd_Ker cs hk kr (fun _ => none) kf ka (gKe (va_up pq p0.toNatClampNeg (some q11)) pz tq rq), fm 13 (fTx cs tq TR TO TF TA), fm 13 (fRw cs rq RR RM RW RF RA RC)] ++ [fm 8 (fPp cs pq PV), bPg cs q11 (⟨(fun _ => hq9_53), none, (fun k => if k = 0 then (1 : Int32) else if k = 3 then (0 : Int32) else if k = 4 then (0 : Int32) else (0 : Int32)), 0, (fun _ => 0), z5.toNatClampNeg, cw9_53⟩ : Pvs)]) := hw.eq rfl
              have hpo : PvO (⟨(fun _ => hq9_53), none, (fun k => if k = 0 then (1 : Int32) else if k = 3 then (0 : Int32) else if k = 4 then (0 : Int32) else (0 : Int32)), 0, (fun _ => 0), z5.toNatClampNeg, cw9_53⟩ : Pvs) := (show (z5.toNatClampNeg ≤ 100000 ∧ 0 ≤ 1000000) ∧ (0 ≤ (1 : Int32).toInt ∧ (1 : Int32).toInt ≤ 1) ∧ ((1 : Int32).toInt = 0 → CodeOk cw9_53 ∧ RtOk (fun _ => 0) ∧ Lk (0 : Int32)) from ⟨⟨by omega, by omega⟩, ⟨by decide, by decide⟩, fun h9 => absurd h9 (by decide)⟩)
              have hw := fpp_repl (pr := [wd_Hs cs xh (fun k => if k = 1 then hc else if k = 2 then hk else xt k) (fun _ => none) xf_53 xa (fun _ _ => none), wd_Ker cs hk kr (fun _ => none) kf ka (gKe (va_up pq p0.toNatClampNeg (some q11)) pz tq rq), fm 13 (fTx cs tq TR TO TF TA), fm 13 (fRw cs rq RR RM RW RF RA RC)]) hw hi14
              obtain ⟨PV16, hu_PV16⟩ : ∃ y : Nat → Pvs, y = va_up PV p0.toNatClampNeg (⟨(fun _ => hq9_53), none, (fun k => if k = 0 then (1 : Int32) else if k = 3 then (0 : Int32) else if k = 4 then (0 : Int32) else (0 : Int32)), 0, (fun _ => 0), z5.toNatClampNeg, cw9_53⟩ : Pvs) := ⟨_, rfl⟩
              have hw : pw D A s.heap _ _ [wd_Hs cs xh (fun k => if k = 1 then hc else if k = 2 then hk else xt k) (fun _ => none) xf_53 xa (fun _ _ => none), wd_Ker cs hk kr (fun _ => none) kf ka (gKe (va_up pq p0.toNatClampNeg (some q11)) pz tq rq), fm 13 (fTx cs tq TR TO TF TA), fm 13 (fRw cs rq RR RM RW RF RA RC), fm 8 (fPp cs (va_up pq p0.toNatClampNeg (some q11)) PV16)] := (by rw [hu_PV16]; exact hw)
              have hki : KnR (va_up pq p0.toNatClampNeg (some q11)) PV16 pz tq rq TF TA RF := (by rw [hu_PV16]; exact hki.prog hpo)
              exact tg_iret (v := z5) S hr rfl hlk hAe hw (show (ce_53 + 1) ≤ (3) from by first | exact oz_4367d87500 k53_5 | omega) (show (sl_53 + 6) ≤ (700) from by omega) (⟨xf_53, (va_up pq p0.toNatClampNeg (some q11)), PV16, rfl, (show KnR (va_up pq p0.toNatClampNeg (some q11)) PV16 pz tq rq TF TA RF from hki), (show (xf_53 3).toInt = 0 from by first | exact k53_0 | omega), (show (xf_53 4).toInt = (xf 4).toInt from by first | exact k53_1 | omega), (show (xf_53 5).toInt = (xf 5).toInt from by first | exact k53_2 | omega), (show 0 ≤ p0.toInt from by first | exact oz_18a5c06a28 nc1 | omega), (show p0.toInt < 8 from by first | exact oz_1ee3e81409 nc3 | omega), (show ((xf 3).toInt < 4 ∧ z5.toInt = -1) ∨ (4 ≤ (xf 3).toInt ∧ 4 * z5.toInt ≤ (xf 3).toInt ∧ (xf 3).toInt < 4 * z5.toInt + 4) from by omega), (show PqR pq (va_up pq p0.toNatClampNeg (some q11)) p0.toNatClampNeg z5 from pqr_s (by omega)), (show (ce_53 + 1) ≤ 2 from by first | exact oz_8932ecf656 k53_5 | omega), (show 4 * ((sl_53 + 6) : Int) ≤ (xf 3).toInt + 24 from by omega)⟩) d_Hs_raw_153
            · have nc9 : ¬ z5.toInt ≤ x53_4.toInt := mt (i_le (x := z5) (y := x53_4)).mpr c9
              refine lv_iconst (v := 4) S.x S.b d_Hs_raw_59 (by decide) ?_
              refine lv_iload S.x S.b d_Hs_raw_60 (lv_at hl 4 rfl) ?_
              refine lv_imul S.x S.b d_Hs_raw_62 ?_
              refine lv_topi (fun z17 ez17 => ?_)
              have lz17 := Int32.le_toInt z17
              have uz17 := Int32.toInt_lt z17
              have tz17 : -2147483648 ≤ 4 * x53_4.toInt → 4 * x53_4.toInt < 2147483648 → z17.toInt = 4 * x53_4.toInt := by rw [ez17]; exact i_mulc 4 x53_4 (by decide)
              try replace tz17 : z17.toInt = 4 * x53_4.toInt := by omega
              refine lv_istore (lv' := [(5, .int z17), (0, .ref xh), (1, .int p0), (2, .int z5), (3, .ref hq9_53), (4, .int x53_4)]) S.x S.b d_Hs_raw_63 hl (by decide) rfl (fun ls hl => ?_)
              refine lv_aload_n S.x S.b d_Hs_raw_65 rfl (lv_at hl 4 rfl) ?_
              refine lv_iload S.x S.b d_Hs_raw_66 (lv_at hl 5 rfl) ?_
              refine lv_aload_n S.x S.b d_Hs_raw_68 rfl (lv_at hl 1 rfl) ?_
              refine px_get S k_Hs hT hw 0 0 0 (v := .ref (xt 0)) rfl rfl rfl (by decide) m3_12 d_Hs_raw_69 ?_
              refine lv_iload S.x S.b d_Hs_raw_72 (lv_at hl 0 rfl) ?_
              refine px_bald S hT hw 0 1 (n := 2048) (f := (xa 0)) rfl (ga_Hs_0 _ _ _ _ _ _ _) (x := z17) (vp_in_iff.mpr (by constructor <;> omega)) d_Hs_raw_74 ?_
              refine lv_topi (fun z18 ez18 => ?_)
              have lz18 := Int32.le_toInt z18
              have uz18 := Int32.toInt_lt z18
              refine lv_sipush (v := 255) S.x S.b d_Hs_raw_75 (by decide) ?_
              refine lv_iand S.x S.b d_Hs_raw_78 ?_
              refine lv_topi (fun z19 ez19 => ?_)
              have lz19 := Int32.le_toInt z19
              have uz19 := Int32.toInt_lt z19
              have bz19 := i_andm z18 (m := 255) 8 (by decide) (by decide)
              rw [← ez19] at bz19
              have wz19 : 0 ≤ z19.toInt ∧ z19.toInt ≤ 255 := by simp only [Nat.reducePow, Int.reducePow] at bz19; omega
              refine lv_aload_n S.x S.b d_Hs_raw_79 rfl (lv_at hl 1 rfl) ?_
              refine px_get S k_Hs hT hw 0 0 0 (v := .ref (xt 0)) rfl rfl rfl (by decide) m3_12 d_Hs_raw_80 ?_
              refine lv_iload S.x S.b d_Hs_raw_83 (lv_at hl 0 rfl) ?_
              refine lv_iconst (v := 1) S.x S.b d_Hs_raw_85 (by decide) ?_
              refine lv_iadd S.x S.b d_Hs_raw_86 ?_
              refine lv_topi (fun z20 ez20 => ?_)
              have tz20 : z20.toInt = (z17.toInt + (1 : Int) + 2147483648) % 4294967296 - 2147483648 := by rw [ez20]; exact i_add z17 1
              have lz20 := Int32.le_toInt z20
              have uz20 := Int32.toInt_lt z20
              try replace tz20 : z20.toInt = z17.toInt + (1 : Int) := by omega
              refine px_bald S hT hw 0 1 (n := 2048) (f := (xa 0)) rfl (ga_Hs_0 _ _ _ _ _ _ _) (x := z20) (vp_in_iff.mpr (by constructor <;> omega)) d_Hs_raw_87 ?_
              refine lv_topi (fun z21 ez21 => ?_)
              have lz21 := Int32.le_toInt z21
              have uz21 := Int32.toInt_lt z21
              refine lv_sipush (v := 255) S.x S.b d_Hs_raw_88 (by decide) ?_
              refine lv_iand S.x S.b d_Hs_raw_91 ?_
              refine lv_topi (fun z22 ez22 => ?_)
              have lz22 := Int32.le_toInt z22
              have uz22 := Int32.toInt_lt z22
              have bz22 := i_andm z21 (m := 255) 8 (by decide) (by decide)
              rw [← ez22] at bz22
              have wz22 : 0 ≤ z22.toInt ∧ z22.toInt ≤ 255 := by simp only [Nat.reducePow, Int.reducePow] at bz22; omega
              refine lv_bipush (v := 8) S.x S.b d_Hs_raw_92 (by decide) ?_
              refine lv_ishl S.x S.b d_Hs_raw_94 ?_
              refine lv_topi (fun z23 ez23 => ?_)
              have lz23 := Int32.le_toInt z23
              have uz23 := Int32.toInt_lt z23
              have tz23 : 0 ≤ z22.toInt → z22.toInt * 256 < 2147483648 → z23.toInt = z22.toInt * 256 := by rw [ez23]; exact i_shl z22 8 (k := 8) (d := 256) (by decide) (by decide)
              refine lv_ior S.x S.b d_Hs_raw_95 ?_
              refine lv_topi (fun z24 ez24 => ?_)
              have lz24 := Int32.le_toInt z24
              have uz24 := Int32.toInt_lt z24
              refine lv_aload_n S.x S.b d_Hs_raw_96 rfl (lv_at hl 1 rfl) ?_
              refine px_get S k_Hs hT hw 0 0 0 (v := .ref (xt 0)) rfl rfl rfl (by decide) m3_12 d_Hs_raw_97 ?_
              refine lv_iload S.x S.b d_Hs_raw_100 (lv_at hl 0 rfl) ?_
              refine lv_iconst (v := 2) S.x S.b d_Hs_raw_102 (by decide) ?_
              refine lv_iadd S.x S.b d_Hs_raw_103 ?_
              refine lv_topi (fun z25 ez25 => ?_)
              have tz25 : z25.toInt = (z17.toInt + (2 : Int) + 2147483648) % 4294967296 - 2147483648 := by rw [ez25]; exact i_add z17 2
              have lz25 := Int32.le_toInt z25
              have uz25 := Int32.toInt_lt z25
              try replace tz25 : z25.toInt = z17.toInt + (2 : Int) := by omega
              refine px_bald S hT hw 0 1 (n := 2048) (f := (xa 0)) rfl (ga_Hs_0 _ _ _ _ _ _ _) (x := z25) (vp_in_iff.mpr (by constructor <;> omega)) d_Hs_raw_104 ?_
              refine lv_topi (fun z26 ez26 => ?_)
              have lz26 := Int32.le_toInt z26
              have uz26 := Int32.toInt_lt z26
              refine lv_sipush (v := 255) S.x S.b d_Hs_raw_105 (by decide) ?_
              refine lv_iand S.x S.b d_Hs_raw_108 ?_
              refine lv_topi (fun z27 ez27 => ?_)
              have lz27 := Int32.le_toInt z27
              have uz27 := Int32.toInt_lt z27
              have bz27 := i_andm z26 (m := 255) 8 (by decide) (by decide)
              rw [← ez27] at bz27
              have wz27 : 0 ≤ z27.toInt ∧ z27.toInt ≤ 255 := by simp only [Nat.reducePow, Int.reducePow] at bz27; omega
              refine lv_bipush (v := 16) S.x S.b d_Hs_raw_109 (by decide) ?_
              refine lv_ishl S.x S.b d_Hs_raw_111 ?_
              refine lv_topi (fun z28 ez28 => ?_)
              have lz28 := Int32.le_toInt z28
              have uz28 := Int32.toInt_lt z28
              have tz28 : 0 ≤ z27.toInt → z27.toInt * 65536 < 2147483648 → z28.toInt = z27.toInt * 65536 := by rw [ez28]; exact i_shl z27 16 (k := 16) (d := 65536) (by decide) (by decide)
              refine lv_ior S.x S.b d_Hs_raw_112 ?_
              refine lv_topi (fun z29 ez29 => ?_)
              have lz29 := Int32.le_toInt z29
              have uz29 := Int32.toInt_lt z29
              refine lv_aload_n S.x S.b d_Hs_raw_113 rfl (lv_at hl 1 rfl) ?_
              refine px_get S k_Hs hT hw 0 0 0 (v := .ref (xt 0)) rfl rfl rfl (by decide) m3_12 d_Hs_raw_114 ?_
              refine lv_iload S.x S.b d_Hs_raw_117 (lv_at hl 0 rfl) ?_
              refine lv_iconst (v := 3) S.x S.b d_Hs_raw_119 (by decide) ?_
              refine lv_iadd S.x S.b d_Hs_raw_120 ?_
              refine lv_topi (fun z30 ez30 => ?_)
              have tz30 : z30.toInt = (z17.toInt + (3 : Int) + 2147483648) % 4294967296 - 2147483648 := by rw [ez30]; exact i_add z17 3
              have lz30 := Int32.le_toInt z30
              have uz30 := Int32.toInt_lt z30
              try replace tz30 : z30.toInt = z17.toInt + (3 : Int) := by omega
              refine px_bald S hT hw 0 1 (n := 2048) (f := (xa 0)) rfl (ga_Hs_0 _ _ _ _ _ _ _) (x := z30) (vp_in_iff.mpr (by constructor <;> omega)) d_Hs_raw_121 ?_
              refine lv_topi (fun z31 ez31 => ?_)
              have lz31 := Int32.le_toInt z31
              have uz31 := Int32.toInt_lt z31
              refine lv_bipush (v := 24) S.x S.b d_Hs_raw_122 (by decide) ?_
              refine lv_ishl S.x S.b d_Hs_raw_124 ?_
              refine lv_topi (fun z32 ez32 => ?_)
              have lz32 := Int32.le_toInt z32
              have uz32 := Int32.toInt_lt z32
              have tz32 : 0 ≤ z31.toInt → z31.toInt * 16777216 < 2147483648 → z32.toInt = z31.toInt * 16777216 := by rw [ez32]; exact i_shl z31 24 (k := 24) (d := 16777216) (by decide) (by decide)
              refine lv_ior S.x S.b d_Hs_raw_125 ?_
              refine lv_topi (fun z33 ez33 => ?_)
              have lz33 := Int32.le_toInt z33
              have uz33 := Int32.toInt_lt z33
              refine px_iast S hT hw 5 0 (n := z5.toNatClampNeg) (f := cw9_53) (x := x53_4) (y := z33) rfl rfl (vp_in_iff.mpr (by constructor <;> omega)) d_Hs_raw_126 (w' := [(hq9_53, .inl (cs 0, z5.toNatClampNeg, .inl (upd cw9_53 x53_4.toNatClampNeg z33)))]) (ps' := [wd_Hs cs xh (fun k => if k = 1 then hc else if k = 2 then hk else xt k) (fun _ => none) xf_53 xa (fun _ _ => none), wd_Ker cs hk kr (fun _ => none) kf ka (gKe pq pz tq rq), fm 13 (fTx cs tq TR TO TF TA), fm 13 (fRw cs rq RR RM RW RF RA RC), fm 8 (fPp cs pq PV), [(hq9_53, .inl (cs 0, z5.toNatClampNeg, .inl (upd cw9_53 x53_4.toNatClampNeg z33)))]]) rfl rfl (fun H locs hw => ?_)
              obtain ⟨z34, ez34⟩ : ∃ y : Int32, y = x53_4 + 1 := ⟨_, rfl⟩
              have tz34 : z34.toInt = (x53_4.toInt + 1 + 2147483648) % 4294967296 - 2147483648 := by rw [ez34]; exact i_add x53_4 1
              have lz34 := Int32.le_toInt z34
              have uz34 := Int32.toInt_lt z34
              try replace tz34 : z34.toInt = x53_4.toInt + 1 := by omega
              refine lv_iinc (v := z34) (lv' := [(4, .int z34), (5, .int z17), (0, .ref xh), (1, .int p0), (2, .int z5), (3, .ref hq9_53)]) S.x S.b d_Hs_raw_127 hl (k := 5) rfl (by rw [ez34]; rfl) (by decide) rfl (fun ls hl => ?_)
              refine lv_goto (tgt := 53) S.x S.b d_Hs_raw_130 (by decide) ?_
              exact ih53 ce_53 sl_53 xf_53 hq9_53 (upd cw9_53 x53_4.toNatClampNeg z33) z34 _ _ ls (show (xf_53 3).toInt = 0 from by first | exact k53_0 | omega) (show (xf_53 4).toInt = (xf 4).toInt from by first | exact k53_1 | omega) (show (xf_53 5).toInt = (xf 5).toInt from by first | exact k53_2 | omega) (show 0 ≤ z34.toInt from by first | exact oz_ae613611c0 tz34 k53_3 | omega) (show z34.toInt ≤ z5.toInt from by first | exact oz_b1314744c8 nc9 tz34 | omega) (show (ce_53 : Int) = 1 from by first | exact k53_5 | omega) (show (sl_53 : Int) = z5.toInt from by first | exact k53_6 | omega) (show z5.toInt - z34.toInt < (n_53 : Int) from by first | exact oz_654393c63a hm tz34 | omega) hw (lv_sub hl [2, 3, 4, 5, 0] rfl)
        exact J53 ((z5.toInt - (0 : Int)).toNat + 1) (0 + 1) (0 + z5.toNatClampNeg) (upd xf 3 0) q8 (fun _ => 0) (0 : Int32) _ _ ls (show (0 : Int) = 0 from by first | exact oz_7d1a308c7e | omega) (show (xf 4).toInt = (xf 4).toInt from rfl) (show (xf 5).toInt = (xf 5).toInt from rfl) (show 0 ≤ (0 : Int) from by first | exact oz_5a341f00aa | omega) (show (0 : Int) ≤ z5.toInt from by first | exact oz_b93e5bfff5 hcl_q8 | omega) (show ((0 + 1) : Int) = 1 from by omega) (show ((0 + z5.toNatClampNeg) : Int) = z5.toInt from by first | exact oz_fe6a99f05c hcl_q8 | omega) (show z5.toInt - (0 : Int) < ((((z5.toInt - (0 : Int)).toNat + 1 : Nat) : Int) : Int) from by first | exact oz_natlt | omega) hw (lv_sub hl [3, 4, 2, 1, 0] rfl)
      · have nc6 : z5.toInt = (0 : Int) := (i_eq (x := z5) (y := 0)).mp c6
        refine lv_aload_n S.x S.b d_Hs_raw_34 rfl (lv_at hl 1 rfl) ?_
        refine px_get S k_Hs hT hw 0 0 2 (v := .ref hk) rfl rfl rfl (by decide) m3_14 d_Hs_raw_35 ?_
        refine px_get S k_Ker hT hw 1 0 0 (v := .ref (kr 0)) rfl rfl rfl (by decide) m2_219 d_Hs_raw_38 ?_
        refine lv_iload_n S.x S.b d_Hs_raw_41 rfl (lv_at hl 2 rfl) ?_
        refine lv_null S.x S.b d_Hs_raw_42 ?_
        have hc35 := cl_nat (x := p0) (by first | exact oz_18a5c06a28 nc1 | omega)
        have hi35 : p0.toNatClampNeg < 8 := by first | exact oz_64f9ecd053 hc35 nc3 | omega
        refine px_aastN S hT hw 1 1 5 (n := 8) (f := pq) rfl rfl rfl (x := p0) (vp_in_iff.mpr (by first | exact oz_f7a52c08c8 nc1 nc3 | (constructor <;> omega))) d_Hs_raw_43 (w' := wd_Ker cs hk kr (fun _ => none) kf ka (gKe (va_up pq p0.toNatClampNeg none) pz tq rq)) (ps' := [wd_Hs cs xh (fun k => if k = 1 then hc else if k = 2 then hk else xt k) (fun _ => none) (upd xf 3 0) xa (fun _ _ => none), wd_Ker cs hk kr (fun _ => none) kf ka (gKe (va_up pq p0.toNatClampNeg none) pz tq rq), fm 13 (fTx cs tq TR TO TF TA), fm 13 (fRw cs rq RR RM RW RF RA RC), fm 8 (fPp cs pq PV)]) rfl rfl (fun H locs hw => ?_)
        refine lv_iconst (v := (-1)) S.x S.b d_Hs_raw_44 (by decide) ?_
        have hw : pw D A s.heap _ _ [wd_Hs cs xh (fun k => if k = 1 then hc else if k = 2 then hk else xt k) (fun _ => none) (upd xf 3 0) xa (fun _ _ => none), wd_Ker cs hk kr (fun _ => none) kf ka (gKe (va_up pq p0.toNatClampNeg none) pz tq rq), fm 13 (fTx cs tq TR TO TF TA), fm 13 (fRw cs rq RR RM RW RF RA RC), fm 8 (fPp cs (va_up pq p0.toNatClampNeg none) PV)] := fpp_nul (pr := [wd_Hs cs xh (fun k => if k = 1 then hc else if k = 2 then hk else xt k) (fun _ => none) (upd xf 3 0) xa (fun _ _ => none), wd_Ker cs hk kr (fun _ => none) kf ka (gKe (va_up pq p0.toNatClampNeg none) pz tq rq), fm 13 (fTx cs tq TR TO TF TA), fm 13 (fRw cs rq RR RM RW RF RA RC)]) hw hi35
        have hki : KnR (va_up pq p0.toNatClampNeg none) PV pz tq rq TF TA RF := hki.progN
        exact tg_iret (v := (-1)) S hr rfl hlk hAe hw (show 0 ≤ (3) from by omega) (show 0 ≤ (700) from by omega) (⟨(upd xf 3 0), (va_up pq p0.toNatClampNeg none), PV, rfl, (show KnR (va_up pq p0.toNatClampNeg none) PV pz tq rq TF TA RF from hki), (show (0 : Int) = 0 from by first | exact oz_7d1a308c7e | omega), (show (xf 4).toInt = (xf 4).toInt from rfl), (show (xf 5).toInt = (xf 5).toInt from rfl), (show 0 ≤ p0.toInt from by first | exact oz_18a5c06a28 nc1 | omega), (show p0.toInt < 8 from by first | exact oz_1ee3e81409 nc3 | omega), (show ((xf 3).toInt < 4 ∧ (-1 : Int) = -1) ∨ (4 ≤ (xf 3).toInt ∧ 4 * (-1 : Int) ≤ (xf 3).toInt ∧ (xf 3).toInt < 4 * (-1 : Int) + 4) from by omega), (show PqR pq (va_up pq p0.toNatClampNeg none) p0.toNatClampNeg (-1 : Int32) from pqr_n (by decide)), (show 0 ≤ 2 from by omega), (show 4 * (0 : Int) ≤ (xf 3).toInt + 24 from by first | exact oz_68a0fa17a3 g0 | omega)⟩) d_Hs_raw_45
    · have nc3 : ¬ p0.toInt < (8 : Int) := mt (i_lt (x := p0) (y := 8)).mpr c3
      have hA1 : ∀ a ∈ Bundle.throwableAtoms, a.before [Value.ref xh, Value.int p0].toArray s = true := by unfold Bundle.throwableAtoms; exact List.forall_mem_cons.mpr ⟨(S.w m1_23), List.forall_mem_cons.mpr ⟨(S.w m3_77), List.forall_mem_cons.mpr ⟨(S.w m3_86), List.forall_mem_cons.mpr ⟨(S.w m3_92), List.forall_mem_cons.mpr ⟨(S.w m3_95), List.forall_mem_cons.mpr ⟨(S.w m3_97), List.forall_mem_cons.mpr ⟨(S.w m3_78), List.forall_mem_cons.mpr ⟨(S.w m3_79), List.forall_mem_cons.mpr ⟨(S.w m1_46), List.forall_mem_cons.mpr ⟨(S.w m1_47), List.forall_mem_cons.mpr ⟨(S.w m3_80), List.forall_mem_cons.mpr ⟨(S.w m3_85), List.forall_mem_cons.mpr ⟨(S.w m3_93), List.forall_mem_cons.mpr ⟨(S.w m3_110), List.forall_mem_cons.mpr ⟨(S.w m3_67), List.forall_mem_cons.mpr ⟨(S.w m3_111), List.forall_mem_cons.mpr ⟨(S.w m3_69), List.forall_mem_cons.mpr ⟨(S.w m3_112), List.forall_mem_cons.mpr ⟨(S.w m3_71), List.forall_mem_cons.mpr ⟨(S.w m3_81), List.forall_mem_cons.mpr ⟨hN.2.1.lays, List.forall_mem_cons.mpr ⟨(S.w m3_83), List.forall_mem_cons.mpr ⟨hN.2.2.lays, List.forall_mem_cons.mpr ⟨(S.w m3_73), fun _ h => absurd h List.not_mem_nil⟩⟩⟩⟩⟩⟩⟩⟩⟩⟩⟩⟩⟩⟩⟩⟩⟩⟩⟩⟩⟩⟩⟩⟩
      have hA2 : ∀ a ∈ Bundle.chain0Atoms "java/lang/IndexOutOfBoundsException" ["java/lang/RuntimeException", "java/lang/Exception"], a.before [Value.ref xh, Value.int p0].toArray s = true := by unfold Bundle.chain0Atoms Bundle.chain0Atoms Bundle.chain0Atoms Bundle.passAtoms; exact List.forall_mem_cons.mpr ⟨(S.w m3_166), List.forall_mem_cons.mpr ⟨(S.w m3_167), List.forall_mem_cons.mpr ⟨(S.w m3_168), List.forall_mem_cons.mpr ⟨(S.w m3_102), List.forall_mem_cons.mpr ⟨(va_Nw.use rfl (hT.2.2 _ m3_58n rfl)), List.forall_mem_cons.mpr ⟨(S.w m3_102), List.forall_mem_cons.mpr ⟨(S.w m3_103), List.forall_mem_cons.mpr ⟨(S.w m3_104), List.forall_mem_cons.mpr ⟨(S.w m3_105), List.forall_mem_cons.mpr ⟨(va_Nw.use rfl (hT.2.2 _ m3_60n rfl)), List.forall_mem_cons.mpr ⟨(S.w m3_105), List.forall_mem_cons.mpr ⟨(S.w m3_106), List.forall_mem_cons.mpr ⟨(S.w m3_107), List.forall_mem_cons.mpr ⟨(S.w m3_78), List.forall_mem_cons.mpr ⟨(va_Nw.use rfl (hT.2.2 _ m3_62n rfl)), fun _ h => absurd h List.not_mem_nil⟩⟩⟩⟩⟩⟩⟩⟩⟩⟩⟩⟩⟩⟩⟩
      have hA3 : ∀ a ∈ ([Cond.methodLink "HomeSystem" 64 ⟨"java/lang/IndexOutOfBoundsException", "<init>", "()V"⟩, Cond.instantiable "java/lang/IndexOutOfBoundsException" 6, Cond.castable "java/lang/IndexOutOfBoundsException" "java/lang/IndexOutOfBoundsException", Cond.selects "java/lang/IndexOutOfBoundsException" ⟨"java/lang/Throwable", "fillInStackTrace", "(I)Ljava/lang/Throwable;"⟩ ⟨"java/lang/Throwable", "fillInStackTrace", "(I)Ljava/lang/Throwable;"⟩, Cond.selects "java/lang/IndexOutOfBoundsException" ⟨"java/lang/Throwable", "fillInStackTrace", "()Ljava/lang/Throwable;"⟩ ⟨"java/lang/Throwable", "fillInStackTrace", "()Ljava/lang/Throwable;"⟩, Cond.lays "java/lang/IndexOutOfBoundsException" "java/lang/Throwable" "cause" "Ljava/lang/Throwable;", Cond.lays "java/lang/IndexOutOfBoundsException" "java/lang/Throwable" "stackTrace" "[Ljava/lang/StackTraceElement;", Cond.lays "java/lang/IndexOutOfBoundsException" "java/lang/Throwable" "suppressedExceptions" "Ljava/util/List;", Cond.lays "java/lang/IndexOutOfBoundsException" "java/lang/Throwable" "detailMessage" "Ljava/lang/String;", Cond.isRef (.static Bundle.tN "UNASSIGNED_STACK" Bundle.steD), Cond.isRef (.static Bundle.tN "SUPPRESSED_SENTINEL" Bundle.listD), Cond.fieldLink "java/lang/Throwable" 198 "java/lang/Throwable" "backtrace" "Ljava/lang/Object;", Cond.lays "java/lang/Throwable" "java/lang/Throwable" "backtrace" "Ljava/lang/Object;", Cond.lays "java/lang/IndexOutOfBoundsException" "java/lang/Throwable" "backtrace" "Ljava/lang/Object;"] : List Cond), a.before [Value.ref xh, Value.int p0].toArray s = true := List.forall_mem_cons.mpr ⟨(S.w m3_165), List.forall_mem_cons.mpr ⟨(S.w m3_157), List.forall_mem_cons.mpr ⟨(va_Nw.use rfl (hT.2.2 _ m3_158n rfl)), List.forall_mem_cons.mpr ⟨(S.w m3_159), List.forall_mem_cons.mpr ⟨(S.w m3_91), List.forall_mem_cons.mpr ⟨(S.w m3_160), List.forall_mem_cons.mpr ⟨(S.w m3_161), List.forall_mem_cons.mpr ⟨(S.w m3_162), List.forall_mem_cons.mpr ⟨(S.w m3_163), List.forall_mem_cons.mpr ⟨(sent_at hsent.1), List.forall_mem_cons.mpr ⟨(sent_at hsent.2), List.forall_mem_cons.mpr ⟨(S.w m3_76), List.forall_mem_cons.mpr ⟨(S.w m3_75), List.forall_mem_cons.mpr ⟨(S.w m3_164), fun _ h => absurd h List.not_mem_nil⟩⟩⟩⟩⟩⟩⟩⟩⟩⟩⟩⟩⟩⟩
      have hat : ∀ a ∈ Bundle.ownAtoms0 "HomeSystem" 64 "java/lang/IndexOutOfBoundsException" ["java/lang/RuntimeException", "java/lang/Exception"], a.before [Value.ref xh, Value.int p0].toArray s = true := by
        unfold Bundle.ownAtoms0
        exact fun a ha => (List.mem_append.mp ha).elim (fun ha => (List.mem_append.mp ha).elim (hA1 a) (hA2 a)) (hA3 a)
      exact tg_thr (E := "java/lang/IndexOutOfBoundsException") (show 1 ≤ (3) from by omega) (show 6 ≤ (700) from by omega) (tx_throw (own := "HomeSystem") (E := "java/lang/IndexOutOfBoundsException") (names := ["java/lang/RuntimeException", "java/lang/Exception"]) S.x S.b hlk htr S.own (S.w m3_156) (S.w m1_28) (by decide +kernel) (by decide +kernel) hat (hl.1.trans S.ml.symm) d_Hs_raw_10 d_Hs_raw_13 d_Hs_raw_14 d_Hs_raw_17 hxt (show 1 ≤ (3) from by omega) (show 6 ≤ (700) from by omega) (Nat.le_of_ble_eq_true rfl) (Nat.le_of_ble_eq_true rfl) (fun x t hW hn => ⟨x, rfl, hn⟩)) (fun x t hn hz1 hz2 => Or.inr ⟨x, _, "java/lang/IndexOutOfBoundsException", (by decide), rfl, ⟨rfl, by omega⟩, ⟨va_P.kept hw.1 (fun k y hy => hn.2.2.1 _ (hw.1 k y hy).lt), (by rw [← hAe]; exact hw.2.1)⟩, ⟨hn.2.1, fun q h1 _ => hn.2.2.1 q h1⟩, hn.2.2.2, hz1, hz2⟩)
