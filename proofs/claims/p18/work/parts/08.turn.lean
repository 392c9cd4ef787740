/-! HomeSystem.turn, which returns or throws; the words of a throw -/
/-- what the heap must hold for a throw: Throwable's two constants are there -/
def tx_Sent (U : State) : Prop := (Cond.isRef (.static Bundle.tN "UNASSIGNED_STACK" Bundle.steD)).before #[] U = true ∧ (Cond.isRef (.static Bundle.tN "SUPPRESSED_SENTINEL" Bundle.listD)).before #[] U = true
abbrev b_Hs_turn : ByteArray := prog_1_method_8_code
def y_Hs_turn : MethodName := ⟨R_Hs, "turn", "(I)V"⟩
theorem d_Hs_turn_0 : decode b_Hs_turn 0 = .ok (.iload_n 1, 1) := by decide +kernel
theorem d_Hs_turn_1 : decode b_Hs_turn 1 = .ok (.sipush 200, 3) := by decide +kernel
theorem d_Hs_turn_4 : decode b_Hs_turn 4 = .ok (.if_icmp .lt 9, 3) := by decide +kernel
theorem d_Hs_turn_7 : decode b_Hs_turn 7 = .ok (.iload_n 1, 1) := by decide +kernel
theorem d_Hs_turn_8 : decode b_Hs_turn 8 = .ok (.ldc 84, 2) := by decide +kernel
theorem d_Hs_turn_10 : decode b_Hs_turn 10 = .ok (.if_icmp .le 11, 3) := by decide +kernel
theorem d_Hs_turn_13 : decode b_Hs_turn 13 = .ok (.new 59, 3) := by decide +kernel
theorem d_Hs_turn_16 : decode b_Hs_turn 16 = .ok (.dup, 1) := by decide +kernel
theorem d_Hs_turn_17 : decode b_Hs_turn 17 = .ok (.invokespecial 61, 3) := by decide +kernel
theorem d_Hs_turn_20 : decode b_Hs_turn 20 = .ok (.athrow, 1) := by decide +kernel
theorem d_Hs_turn_21 : decode b_Hs_turn 21 = .ok (.return_, 1) := by decide +kernel
