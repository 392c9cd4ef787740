theorem oz_e5e326f075 {a0 a1 : Int} (h0 : a0 = a1 + 1) (h1 : 0 ≤ a1) : 1 ≤ a0 := by omega
theorem oz_5e3266e4e3 {a0 a1 a2 a3 : Int} (h0 : a2 = a0) (h1 : a1 = a3) (h2 : a2 < a3) : a0 + 1 ≤ a1 := by omega
theorem oz_050fdfc2ab {a0 a1 a2 a3 a4 a5 : Int} (h0 : a4 - a1 ≤ a5 - a3) (h1 : a2 = a5 + 1) (h2 : a0 = a4) : a0 - a1 ≤ a2 - a3 := by omega
theorem oz_7671382d8f {a0 a1 a2 : Int} (h0 : a2 = a1 + 1) (h1 : a0 = a2 - 1) : a0 = a1 := by omega
theorem oz_1358e0d823 {a0 a1 a2 : Int} (h0 : a0 + 1 ≤ a2) (h1 : a2 + 1 ≤ a1) : a0 + 2 ≤ a1 := by omega
theorem oz_36c2aaaab5 {a0 a1 a2 : Int} (h0 : a1 < a0) (h1 : 0 ≤ a2) (h2 : a1 = a2) : 0 ≤ a0 := by omega
theorem oz_80aa4b08cf {a0 a1 a2 a3 : Int} (h0 : a0 - a2 ≤ a1 - a3) (h1 : a2 ≤ a3 + 10) : a0 ≤ a1 + 10 := by omega
theorem oz_173d5d0a35 {a0 a1 a2 a3 : Int} (h0 : a0 = a2) (h1 : a1 = a3 + 1) (h2 : a2 ≤ a3) : a0 ≤ a1 := by omega
theorem oz_9d4072bda4 {a0 a1 a2 a3 a4 a5 a6 : Int} (h0 : a0 = a1) (h1 : 0 ≤ a1) (h2 : a0 < a2) (h3 : a1 ≤ a3 + 10) (h4 : a2 - a1 ≤ a4 - a3) (h5 : a4 + 1 ≤ a5) (h6 : a5 < a6) (h7 : a6 ≤ 2049) : 0 ≤ a0 ∧ a0 < ((2100 : Nat) : Int) := by omega
theorem oz_3c5529d13a {a0 a1 a2 a3 a4 a5 a6 : Int} (h0 : a0 < a1) (h1 : a1 - a2 ≤ a3 - a4) (h2 : a2 ≤ a4 + 10) (h3 : a3 + 1 ≤ a5) (h4 : a5 < a6) (h5 : a6 ≤ 2049) : a0 < 2100 := by omega
theorem oz_3a4745f90a {a0 a1 a2 : Int} (h0 : a0 < a2) (h1 : a2 + 1 ≤ a1) : a0 < a1 := by omega
theorem oz_e76dadc267 {a0 a1 a2 a3 a4 a5 : Int} (h0 : a4 - a1 ≤ a5 - a3) (h1 : a0 - a4 ≤ a2 - a5) : a0 - a1 ≤ a2 - a3 := by omega
theorem oz_ecb2ca289a {a0 a1 a3 : Int} {n2 : Nat} (h0 : a0 - a3 < ((n2 + 1 : Nat) : Int)) (h1 : a3 + 1 ≤ a1) : a0 - a1 < (n2 : Int) := by omega
theorem oz_3cbdbee99c {a0 a1 a2 : Int} (h0 : a0 ≤ a1 + 10) (h1 : a1 < a2) (h2 : a2 ≤ 2049) : a0 < 2100 := by omega
theorem oz_c94e31fc97 {a0 a1 a2 a3 : Int} (h0 : a0 = a2) (h1 : a1 = a3) (h2 : a3 = a2 + 1) : a0 < a1 := by omega
theorem oz_3b92106684 {a0 a1 a2 a3 a4 a5 : Int} (h0 : a4 = a1 + 1) (h1 : a5 = a3) (h2 : a2 = a5 + 1) (h3 : a0 = a4) : a0 - a1 ≤ a2 - a3 := by omega
theorem oz_7b131bab08 {a0 a1 a2 : Int} (h0 : a0 = a1) (h1 : a1 = a2 + 1) (h2 : 0 ≤ a2) : (-1 : Int) < a0 := by omega
theorem m12_98 : Cond.methodLink "HomeSystemModel$Program" 463 ⟨"HomeSystemModel$Program", "statement", "()I"⟩ ∈ AL := AL_12 (List.mem_of_getElem? (i := 98) rfl) rfl
theorem m12_101 : Cond.code ⟨"HomeSystemModel$Program", "statement", "()I"⟩ prog_16_method_51_code 2 (Option.some FieldType.int) ∈ AL := AL_12 (List.mem_of_getElem? (i := 101) rfl) rfl
theorem ms_10_10 : Cond.selects "HomeSystemModel$Program" ⟨"HomeSystemModel$Program", "statement", "()I"⟩ ⟨"HomeSystemModel$Program", "statement", "()I"⟩ ∈ AL := AL_p (q := (⟨"HomeSystemModel$Program", "statement", "()I"⟩, 69)) (by unfold lw_privs; exact List.mem_append_right _ (List.mem_append_right _ (List.mem_append_right _ (List.mem_append_right _ (List.mem_append_right _ (List.mem_append_right _ (List.mem_append_right _ (List.mem_append_right _ (List.mem_append_right _ (List.mem_append_left _ (List.mem_of_getElem? (i := 10) rfl)))))))))))
theorem m12_100 : Cond.instanceMethod ⟨"HomeSystemModel$Program", "statement", "()I"⟩ ∈ AL := AL_12 (List.mem_of_getElem? (i := 100) rfl) rfl
theorem m12_74 : Cond.methodLink "HomeSystemModel$Program" 466 ⟨"HomeSystemModel$Program", "hang", "(III)I"⟩ ∈ AL := AL_12 (List.mem_of_getElem? (i := 74) rfl) rfl
theorem m12_77 : Cond.code ⟨"HomeSystemModel$Program", "hang", "(III)I"⟩ prog_16_method_42_code 4 (Option.some FieldType.int) ∈ AL := AL_12 (List.mem_of_getElem? (i := 77) rfl) rfl
theorem ms_10_4 : Cond.selects "HomeSystemModel$Program" ⟨"HomeSystemModel$Program", "hang", "(III)I"⟩ ⟨"HomeSystemModel$Program", "hang", "(III)I"⟩ ∈ AL := AL_p (q := (⟨"HomeSystemModel$Program", "hang", "(III)I"⟩, 69)) (by unfold lw_privs; exact List.mem_append_right _ (List.mem_append_right _ (List.mem_append_right _ (List.mem_append_right _ (List.mem_append_right _ (List.mem_append_right _ (List.mem_append_right _ (List.mem_append_right _ (List.mem_append_right _ (List.mem_append_left _ (List.mem_of_getElem? (i := 4) rfl)))))))))))
theorem m12_76 : Cond.instanceMethod ⟨"HomeSystemModel$Program", "hang", "(III)I"⟩ ∈ AL := AL_12 (List.mem_of_getElem? (i := 76) rfl) rfl
abbrev b_Mpg_hang : ByteArray := prog_16_method_42_code
def y_Mpg_hang : MethodName := ⟨"HomeSystemModel$Program", "hang", "(III)I"⟩
theorem d_Mpg_hang_0 : decode b_Mpg_hang 0 = .ok (.iload_n 2, 1) := by decide +kernel
theorem d_Mpg_hang_1 : decode b_Mpg_hang 1 = .ok (.ifCond .lt 10, 3) := by decide +kernel
theorem d_Mpg_hang_4 : decode b_Mpg_hang 4 = .ok (.aload_n 0, 1) := by decide +kernel
theorem d_Mpg_hang_5 : decode b_Mpg_hang 5 = .ok (.getfield 228, 3) := by decide +kernel
theorem d_Mpg_hang_8 : decode b_Mpg_hang 8 = .ok (.iload_n 2, 1) := by decide +kernel
theorem d_Mpg_hang_9 : decode b_Mpg_hang 9 = .ok (.iload_n 3, 1) := by decide +kernel
theorem d_Mpg_hang_10 : decode b_Mpg_hang 10 = .ok (.iastore, 1) := by decide +kernel
theorem d_Mpg_hang_11 : decode b_Mpg_hang 11 = .ok (.iload_n 1, 1) := by decide +kernel
theorem d_Mpg_hang_12 : decode b_Mpg_hang 12 = .ok (.ifCond .lt 7, 3) := by decide +kernel
theorem d_Mpg_hang_15 : decode b_Mpg_hang 15 = .ok (.iload_n 1, 1) := by decide +kernel
theorem d_Mpg_hang_16 : decode b_Mpg_hang 16 = .ok (.goto 4, 3) := by decide +kernel
theorem d_Mpg_hang_19 : decode b_Mpg_hang 19 = .ok (.iload_n 3, 1) := by decide +kernel
theorem d_Mpg_hang_20 : decode b_Mpg_hang 20 = .ok (.ireturn, 1) := by decide +kernel
theorem q_Mpg_hang : px_y y_Mpg_hang 3 := by unfold px_y; decide +kernel
set_option maxHeartbeats 4000000 in
set_option maxRecDepth 100000 in
theorem c_mp_hang (l : Launch) (D : va_G) (cs : Nat → ClassId) (h : Nat) (r : Nat → Nat) (g : Nat → Nat → Option Nat) (tf : Nat → Int32) (ta : Nat → Nat → Int32) (pf : Nat → Int32) (ma : Nat → Nat → Int32) (wa : Nat → Nat → Int32) (cf : Nat → Int32) (ca : Nat → Nat → Int32) (ef : Nat → Int32) (ea : Nat → Nat → Int32) (xf : Nat → Int32) (xa : Nat → Nat → Int32) (na : Nat → Nat → Int32) (p0 p1 p2 : Int32)  (g0 : p1.toInt < 2100) (htk : TkI tf ta) : MetI l y_Mpg_hang b_Mpg_hang 4 (.int) D cs 0 0 (0) (0) [.ref h, .int p0, .int p1, .int p2] [wdP cs h r g tf ta pf na ma wa cf ca ef ea xf xa] (fun _ => True) (fun v ps => ∃ (na' : Nat → Nat → Int32), (ps = [wdP cs h r g tf ta pf na' ma wa cf ca ef ea xf xa]) ∧ (Hg na na' p0 p1 p2 v)) := by
  refine px_enter (by decide) (Nat.le_of_ble_eq_true rfl) ?_
  intro p e s m below meth c A ls hAe S hr hlk hnm hA hT hX hw hl
  have hl : lv_has ls 4 [(0, .ref h), (1, .int p0), (2, .int p1), (3, .int p2)] := hl
  have lp0 := Int32.le_toInt p0
  have up0 := Int32.toInt_lt p0
  have lp1 := Int32.le_toInt p1
  have up1 := Int32.toInt_lt p1
  have lp2 := Int32.le_toInt p2
  have up2 := Int32.toInt_lt p2
  refine lv_iload_n S.x S.b d_Mpg_hang_0 rfl (lv_at hl 2 rfl) ?_
  refine lv_if_lt (tgt := 11) S.x S.b d_Mpg_hang_1 (by decide) (fun c1 => ?_) (fun c1 => ?_)
  · have nc1 : p1.toInt < (0 : Int) := (i_lt (x := p1) (y := 0)).mp c1
    refine lv_iload_n S.x S.b d_Mpg_hang_11 rfl (lv_at hl 1 rfl) ?_
    refine lv_if_lt (tgt := 19) S.x S.b d_Mpg_hang_12 (by decide) (fun c2 => ?_) (fun c2 => ?_)
    · have nc2 : p0.toInt < (0 : Int) := (i_lt (x := p0) (y := 0)).mp c2
      refine lv_iload_n S.x S.b d_Mpg_hang_19 rfl (lv_at hl 3 rfl) ?_
      exact px_iret (v := p2) S hr rfl hlk hAe hw (Nat.le_of_ble_eq_true rfl) (Nat.le_of_ble_eq_true rfl) (⟨na, rfl, (show Hg na na p0 p1 p2 p2 from ⟨(fun h => absurd h (by first | with_reducible rfl | with_reducible assumption | omega)), (fun _ => rfl), (fun h => absurd h (by first | with_reducible rfl | with_reducible assumption | omega)), (fun _ => rfl)⟩)⟩) d_Mpg_hang_20
    · have nc2 : ¬ p0.toInt < (0 : Int) := mt (i_lt (x := p0) (y := 0)).mpr c2
      refine lv_iload_n S.x S.b d_Mpg_hang_15 rfl (lv_at hl 1 rfl) ?_
      refine lv_goto (tgt := 20) S.x S.b d_Mpg_hang_16 (by decide) ?_
      exact px_iret (v := p0) S hr rfl hlk hAe hw (Nat.le_of_ble_eq_true rfl) (Nat.le_of_ble_eq_true rfl) (⟨na, rfl, (show Hg na na p0 p1 p2 p0 from ⟨(fun h => absurd h (by first | with_reducible rfl | with_reducible assumption | omega)), (fun _ => rfl), (fun _ => rfl), (fun h => absurd h (by first | with_reducible rfl | with_reducible assumption | omega))⟩)⟩) d_Mpg_hang_20
  · have nc1 : ¬ p1.toInt < (0 : Int) := mt (i_lt (x := p1) (y := 0)).mpr c1
    refine lv_aload_n S.x S.b d_Mpg_hang_4 rfl (lv_at hl 0 rfl) ?_
    refine px_get S k_Mpg hT hw 0 0 21 (v := .ref (r 21)) rfl rfl rfl (by decide) m10_7 d_Mpg_hang_5 ?_
    refine lv_iload_n S.x S.b d_Mpg_hang_8 rfl (lv_at hl 2 rfl) ?_
    refine lv_iload_n S.x S.b d_Mpg_hang_9 rfl (lv_at hl 3 rfl) ?_
    refine px_iast S hT hw 0 17 (n := 2100) (f := (na 21)) (x := p1) (y := p2) rfl gp_21 (vp_in_iff.mpr (by constructor <;> omega)) d_Mpg_hang_10 (w' := wdP cs h r g tf ta pf (va_up na 21 (upd (na 21) p1.toNatClampNeg p2)) ma wa cf ca ef ea xf xa) (ps' := [wdP cs h r g tf ta pf (va_up na 21 (upd (na 21) p1.toNatClampNeg p2)) ma wa cf ca ef ea xf xa]) sp_21 rfl (fun H locs hw => ?_)
    refine lv_iload_n S.x S.b d_Mpg_hang_11 rfl (lv_at hl 1 rfl) ?_
    refine lv_if_lt (tgt := 19) S.x S.b d_Mpg_hang_12 (by decide) (fun c3 => ?_) (fun c3 => ?_)
    · have nc3 : p0.toInt < (0 : Int) := (i_lt (x := p0) (y := 0)).mp c3
      refine lv_iload_n S.x S.b d_Mpg_hang_19 rfl (lv_at hl 3 rfl) ?_
      exact px_iret (v := p2) S hr rfl hlk hAe hw (Nat.le_of_ble_eq_true rfl) (Nat.le_of_ble_eq_true rfl) (⟨(va_up na 21 (upd (na 21) p1.toNatClampNeg p2)), rfl, (show Hg na (va_up na 21 (upd (na 21) p1.toNatClampNeg p2)) p0 p1 p2 p2 from ⟨(fun _ => rfl), (fun h => absurd h (by first | with_reducible rfl | with_reducible assumption | omega)), (fun h => absurd h (by first | with_reducible rfl | with_reducible assumption | omega)), (fun _ => rfl)⟩)⟩) d_Mpg_hang_20
    · have nc3 : ¬ p0.toInt < (0 : Int) := mt (i_lt (x := p0) (y := 0)).mpr c3
      refine lv_iload_n S.x S.b d_Mpg_hang_15 rfl (lv_at hl 1 rfl) ?_
      refine lv_goto (tgt := 20) S.x S.b d_Mpg_hang_16 (by decide) ?_
      exact px_iret (v := p0) S hr rfl hlk hAe hw (Nat.le_of_ble_eq_true rfl) (Nat.le_of_ble_eq_true rfl) (⟨(va_up na 21 (upd (na 21) p1.toNatClampNeg p2)), rfl, (show Hg na (va_up na 21 (upd (na 21) p1.toNatClampNeg p2)) p0 p1 p2 p0 from ⟨(fun _ => rfl), (fun h => absurd h (by first | with_reducible rfl | with_reducible assumption | omega)), (fun _ => rfl), (fun h => absurd h (by first | with_reducible rfl | with_reducible assumption | omega))⟩)⟩) d_Mpg_hang_20
abbrev b_Mpg_statement : ByteArray := prog_16_method_51_code
def y_Mpg_statement : MethodName := ⟨"HomeSystemModel$Program", "statement", "()I"⟩
theorem d_Mpg_statement_0 : decode b_Mpg_statement 0 = .ok (.aload_n 0, 1) := by decide +kernel
theorem d_Mpg_statement_1 : decode b_Mpg_statement 1 = .ok (.ldc 91, 2) := by decide +kernel
theorem d_Mpg_statement_3 : decode b_Mpg_statement 3 = .ok (.invokevirtual 366, 3) := by decide +kernel
theorem d_Mpg_statement_6 : decode b_Mpg_statement 6 = .ok (.ifCond .eq 8, 3) := by decide +kernel
theorem d_Mpg_statement_9 : decode b_Mpg_statement 9 = .ok (.aload_n 0, 1) := by decide +kernel
theorem d_Mpg_statement_10 : decode b_Mpg_statement 10 = .ok (.invokevirtual 470, 3) := by decide +kernel
theorem d_Mpg_statement_13 : decode b_Mpg_statement 13 = .ok (.ireturn, 1) := by decide +kernel
theorem d_Mpg_statement_14 : decode b_Mpg_statement 14 = .ok (.aload_n 0, 1) := by decide +kernel
theorem d_Mpg_statement_15 : decode b_Mpg_statement 15 = .ok (.ldc 101, 2) := by decide +kernel
theorem d_Mpg_statement_17 : decode b_Mpg_statement 17 = .ok (.invokevirtual 366, 3) := by decide +kernel
theorem d_Mpg_statement_20 : decode b_Mpg_statement 20 = .ok (.ifCond .eq 26, 3) := by decide +kernel
theorem d_Mpg_statement_23 : decode b_Mpg_statement 23 = .ok (.aload_n 0, 1) := by decide +kernel
theorem d_Mpg_statement_24 : decode b_Mpg_statement 24 = .ok (.dup, 1) := by decide +kernel
theorem d_Mpg_statement_25 : decode b_Mpg_statement 25 = .ok (.getfield 360, 3) := by decide +kernel
theorem d_Mpg_statement_28 : decode b_Mpg_statement 28 = .ok (.iconst 1, 1) := by decide +kernel
theorem d_Mpg_statement_29 : decode b_Mpg_statement 29 = .ok (.iadd, 1) := by decide +kernel
theorem d_Mpg_statement_30 : decode b_Mpg_statement 30 = .ok (.putfield 360, 3) := by decide +kernel
theorem d_Mpg_statement_33 : decode b_Mpg_statement 33 = .ok (.aload_n 0, 1) := by decide +kernel
theorem d_Mpg_statement_34 : decode b_Mpg_statement 34 = .ok (.bipush 21, 2) := by decide +kernel
theorem d_Mpg_statement_36 : decode b_Mpg_statement 36 = .ok (.aload_n 0, 1) := by decide +kernel
theorem d_Mpg_statement_37 : decode b_Mpg_statement 37 = .ok (.getfield 360, 3) := by decide +kernel
theorem d_Mpg_statement_40 : decode b_Mpg_statement 40 = .ok (.iconst 1, 1) := by decide +kernel
theorem d_Mpg_statement_41 : decode b_Mpg_statement 41 = .ok (.isub, 1) := by decide +kernel
theorem d_Mpg_statement_42 : decode b_Mpg_statement 42 = .ok (.invokevirtual 406, 3) := by decide +kernel
theorem d_Mpg_statement_45 : decode b_Mpg_statement 45 = .ok (.ireturn, 1) := by decide +kernel
theorem d_Mpg_statement_46 : decode b_Mpg_statement 46 = .ok (.aload_n 0, 1) := by decide +kernel
theorem d_Mpg_statement_47 : decode b_Mpg_statement 47 = .ok (.invokevirtual 473, 3) := by decide +kernel
theorem d_Mpg_statement_50 : decode b_Mpg_statement 50 = .ok (.ifCond .eq 8, 3) := by decide +kernel
theorem d_Mpg_statement_53 : decode b_Mpg_statement 53 = .ok (.aload_n 0, 1) := by decide +kernel
theorem d_Mpg_statement_54 : decode b_Mpg_statement 54 = .ok (.invokevirtual 476, 3) := by decide +kernel
theorem d_Mpg_statement_57 : decode b_Mpg_statement 57 = .ok (.ireturn, 1) := by decide +kernel
theorem d_Mpg_statement_58 : decode b_Mpg_statement 58 = .ok (.aload_n 0, 1) := by decide +kernel
theorem d_Mpg_statement_59 : decode b_Mpg_statement 59 = .ok (.getfield 201, 3) := by decide +kernel
theorem d_Mpg_statement_62 : decode b_Mpg_statement 62 = .ok (.aload_n 0, 1) := by decide +kernel
theorem d_Mpg_statement_63 : decode b_Mpg_statement 63 = .ok (.getfield 360, 3) := by decide +kernel
theorem d_Mpg_statement_66 : decode b_Mpg_statement 66 = .ok (.baload, 1) := by decide +kernel
theorem d_Mpg_statement_67 : decode b_Mpg_statement 67 = .ok (.iconst 2, 1) := by decide +kernel
theorem d_Mpg_statement_68 : decode b_Mpg_statement 68 = .ok (.if_icmp .ne 17, 3) := by decide +kernel
theorem d_Mpg_statement_71 : decode b_Mpg_statement 71 = .ok (.aload_n 0, 1) := by decide +kernel
theorem d_Mpg_statement_72 : decode b_Mpg_statement 72 = .ok (.aload_n 0, 1) := by decide +kernel
theorem d_Mpg_statement_73 : decode b_Mpg_statement 73 = .ok (.getfield 204, 3) := by decide +kernel
theorem d_Mpg_statement_76 : decode b_Mpg_statement 76 = .ok (.aload_n 0, 1) := by decide +kernel
theorem d_Mpg_statement_77 : decode b_Mpg_statement 77 = .ok (.getfield 360, 3) := by decide +kernel
theorem d_Mpg_statement_80 : decode b_Mpg_statement 80 = .ok (.iaload, 1) := by decide +kernel
theorem d_Mpg_statement_81 : decode b_Mpg_statement 81 = .ok (.invokevirtual 479, 3) := by decide +kernel
theorem d_Mpg_statement_84 : decode b_Mpg_statement 84 = .ok (.ireturn, 1) := by decide +kernel
theorem d_Mpg_statement_85 : decode b_Mpg_statement 85 = .ok (.aload_n 0, 1) := by decide +kernel
theorem d_Mpg_statement_86 : decode b_Mpg_statement 86 = .ok (.bipush 22, 2) := by decide +kernel
theorem d_Mpg_statement_88 : decode b_Mpg_statement 88 = .ok (.aload_n 0, 1) := by decide +kernel
theorem d_Mpg_statement_89 : decode b_Mpg_statement 89 = .ok (.getfield 360, 3) := by decide +kernel
theorem d_Mpg_statement_92 : decode b_Mpg_statement 92 = .ok (.invokevirtual 406, 3) := by decide +kernel
theorem d_Mpg_statement_95 : decode b_Mpg_statement 95 = .ok (.istore_n 1, 1) := by decide +kernel
theorem d_Mpg_statement_96 : decode b_Mpg_statement 96 = .ok (.aload_n 0, 1) := by decide +kernel
theorem d_Mpg_statement_97 : decode b_Mpg_statement 97 = .ok (.getfield 216, 3) := by decide +kernel
theorem d_Mpg_statement_100 : decode b_Mpg_statement 100 = .ok (.iload_n 1, 1) := by decide +kernel
theorem d_Mpg_statement_101 : decode b_Mpg_statement 101 = .ok (.aload_n 0, 1) := by decide +kernel
theorem d_Mpg_statement_102 : decode b_Mpg_statement 102 = .ok (.invokevirtual 403, 3) := by decide +kernel
theorem d_Mpg_statement_105 : decode b_Mpg_statement 105 = .ok (.iastore, 1) := by decide +kernel
theorem d_Mpg_statement_106 : decode b_Mpg_statement 106 = .ok (.aload_n 0, 1) := by decide +kernel
theorem d_Mpg_statement_107 : decode b_Mpg_statement 107 = .ok (.ldc 101, 2) := by decide +kernel
theorem d_Mpg_statement_109 : decode b_Mpg_statement 109 = .ok (.invokevirtual 386, 3) := by decide +kernel
theorem d_Mpg_statement_112 : decode b_Mpg_statement 112 = .ok (.iload_n 1, 1) := by decide +kernel
theorem d_Mpg_statement_113 : decode b_Mpg_statement 113 = .ok (.ireturn, 1) := by decide +kernel
theorem q_Mpg_statement : px_y y_Mpg_statement 0 := by unfold px_y; decide +kernel
def StmC (l : Launch) (D : va_G) (cs : Nat → ClassId) (lv : Nat) : Prop := ∀ (h : Nat) (r : Nat → Nat) (g : Nat → Nat → Option Nat) (tf : Nat → Int32) (ta : Nat → Nat → Int32) (cf : Nat → Int32) (ca : Nat → Nat → Int32) (ef : Nat → Int32) (ea : Nat → Nat → Int32) (xf : Nat → Int32) (xa : Nat → Nat → Int32) (pf : Nat → Int32) (na : Nat → Nat → Int32) (ma : Nat → Nat → Int32) (wa : Nat → Nat → Int32) (g0 : 0 ≤ (pf 11).toInt) (g1 : (pf 11).toInt < (tf 6).toInt) (g2 : (tf 6).toInt ≤ 2049) (g3 : 0 ≤ (pf 12).toInt) (g4 : (pf 12).toInt ≤ 60) (g5 : 0 ≤ (pf 13).toInt) (g6 : (pf 13).toInt ≤ (pf 11).toInt + 10) (g7 : 0 ≤ (pf 26).toInt) (g8 : (pf 26).toInt ≤ (pf 12).toInt) (g9 : 61 ≤ (pf 12).toInt + (lv : Int)) (g10 : lv ≤ 61) (hlf : l.flags = pinnedFlags ++ [noTraceFlag]) (htk : TkI tf ta) (hfs : FsI (tf 6).toInt (pf 13).toInt na), ThI l y_Mpg_statement b_Mpg_statement 2 (.int) D cs (8 * lv + 28) (220 * lv + 1280) [.ref h] [wdP cs h r g tf ta pf na ma wa cf ca ef ea xf xa] (oX (fun A U H => (oN A U H) ∧ (oP A g U H)) [wdP cs h r g tf ta pf na ma wa cf ca ef ea xf xa]) "java/lang/IllegalArgumentException" (fun v ps => ∃ (pf' : Nat → Int32) (na' : Nat → Nat → Int32) (ma' : Nat → Nat → Int32) (wa' : Nat → Nat → Int32), (ps = [wdP cs h r g tf ta pf' na' ma' wa' cf ca ef ea xf xa]) ∧ ((pf 11).toInt + 1 ≤ (pf' 11).toInt) ∧ ((pf' 11).toInt < (tf 6).toInt) ∧ ((pf 13).toInt + 1 ≤ (pf' 13).toInt) ∧ ((pf' 13).toInt - (pf 13).toInt ≤ (pf' 11).toInt - (pf 11).toInt) ∧ (bp ta (pf 11) + 1 ≤ bp ta (pf' 11)) ∧ ((pf' 12).toInt = (pf 12).toInt) ∧ ((pf' 24).toInt = (pf 24).toInt) ∧ ((pf' 25).toInt = (pf 25).toInt) ∧ ((pf' 26).toInt = (pf 26).toInt) ∧ (FrB (pf 13).toInt na ma na' ma') ∧ (FrW (pf 26).toInt wa wa') ∧ (VlS ta (tf 6).toInt na' ma' v (pf 13).toInt (pf' 13).toInt (3 * (bp ta (pf' 11) - bp ta (pf 11))) (200 - (pf 12).toInt)) ∧ (FsI (tf 6).toInt (pf' 13).toInt na')) (fun ps => ∃ (pf' : Nat → Int32) (na' : Nat → Nat → Int32) (ma' : Nat → Nat → Int32) (wa' : Nat → Nat → Int32), ps = [wdP cs h r g tf ta pf' na' ma' wa' cf ca ef ea xf xa] ∧ 0 ≤ (pf' 11).toInt ∧ (pf' 11).toInt + 1 ≤ (tf 6).toInt)
def LvT (l : Launch) (D : va_G) (cs : Nat → ClassId) (lv : Nat) : Prop := 1 ≤ lv → StmC l D cs (lv - 1)
theorem LvT.go {l : Launch} {D : va_G} {cs : Nat → ClassId} {lv : Nat} (h : LvT l D cs lv) (k : 1 ≤ lv) : StmC l D cs (lv - 1) := h k
theorem lvt_0 {l : Launch} {D : va_G} {cs : Nat → ClassId} : LvT l D cs 0 := fun h => absurd h (by decide)
theorem lvt_s {l : Launch} {D : va_G} {cs : Nat → ClassId} {n : Nat} (h : StmC l D cs n) : LvT l D cs (n + 1) := fun _ => h
abbrev b_Mpg_block : ByteArray := prog_16_method_49_code
def y_Mpg_block : MethodName := ⟨"HomeSystemModel$Program", "block", "()I"⟩
theorem d_Mpg_block_0 : decode b_Mpg_block 0 = .ok (.aload_n 0, 1) := by decide +kernel
theorem d_Mpg_block_1 : decode b_Mpg_block 1 = .ok (.bipush 20, 2) := by decide +kernel
theorem d_Mpg_block_3 : decode b_Mpg_block 3 = .ok (.aload_n 0, 1) := by decide +kernel
theorem d_Mpg_block_4 : decode b_Mpg_block 4 = .ok (.getfield 360, 3) := by decide +kernel
theorem d_Mpg_block_7 : decode b_Mpg_block 7 = .ok (.invokevirtual 406, 3) := by decide +kernel
theorem d_Mpg_block_10 : decode b_Mpg_block 10 = .ok (.istore_n 1, 1) := by decide +kernel
theorem d_Mpg_block_11 : decode b_Mpg_block 11 = .ok (.aload_n 0, 1) := by decide +kernel
theorem d_Mpg_block_12 : decode b_Mpg_block 12 = .ok (.ldc 91, 2) := by decide +kernel
theorem d_Mpg_block_14 : decode b_Mpg_block 14 = .ok (.invokevirtual 457, 3) := by decide +kernel
theorem d_Mpg_block_17 : decode b_Mpg_block 17 = .ok (.iconst (-1), 1) := by decide +kernel
theorem d_Mpg_block_18 : decode b_Mpg_block 18 = .ok (.istore_n 2, 1) := by decide +kernel
theorem d_Mpg_block_19 : decode b_Mpg_block 19 = .ok (.aload_n 0, 1) := by decide +kernel
theorem d_Mpg_block_20 : decode b_Mpg_block 20 = .ok (.ldc 93, 2) := by decide +kernel
theorem d_Mpg_block_22 : decode b_Mpg_block 22 = .ok (.invokevirtual 366, 3) := by decide +kernel
theorem d_Mpg_block_25 : decode b_Mpg_block 25 = .ok (.ifCond .ne 31, 3) := by decide +kernel
theorem d_Mpg_block_28 : decode b_Mpg_block 28 = .ok (.aload_n 0, 1) := by decide +kernel
theorem d_Mpg_block_29 : decode b_Mpg_block 29 = .ok (.invokevirtual 463, 3) := by decide +kernel
theorem d_Mpg_block_32 : decode b_Mpg_block 32 = .ok (.istore_n 3, 1) := by decide +kernel
theorem d_Mpg_block_33 : decode b_Mpg_block 33 = .ok (.aload_n 0, 1) := by decide +kernel
theorem d_Mpg_block_34 : decode b_Mpg_block 34 = .ok (.getfield 216, 3) := by decide +kernel
theorem d_Mpg_block_37 : decode b_Mpg_block 37 = .ok (.iload_n 1, 1) := by decide +kernel
theorem d_Mpg_block_38 : decode b_Mpg_block 38 = .ok (.aload_n 0, 1) := by decide +kernel
theorem d_Mpg_block_39 : decode b_Mpg_block 39 = .ok (.aload_n 0, 1) := by decide +kernel
theorem d_Mpg_block_40 : decode b_Mpg_block 40 = .ok (.getfield 216, 3) := by decide +kernel
theorem d_Mpg_block_43 : decode b_Mpg_block 43 = .ok (.iload_n 1, 1) := by decide +kernel
theorem d_Mpg_block_44 : decode b_Mpg_block 44 = .ok (.iaload, 1) := by decide +kernel
theorem d_Mpg_block_45 : decode b_Mpg_block 45 = .ok (.iload_n 2, 1) := by decide +kernel
theorem d_Mpg_block_46 : decode b_Mpg_block 46 = .ok (.iload_n 3, 1) := by decide +kernel
theorem d_Mpg_block_47 : decode b_Mpg_block 47 = .ok (.invokevirtual 466, 3) := by decide +kernel
theorem d_Mpg_block_50 : decode b_Mpg_block 50 = .ok (.iastore, 1) := by decide +kernel
theorem d_Mpg_block_51 : decode b_Mpg_block 51 = .ok (.iload_n 3, 1) := by decide +kernel
theorem d_Mpg_block_52 : decode b_Mpg_block 52 = .ok (.istore_n 2, 1) := by decide +kernel
theorem d_Mpg_block_53 : decode b_Mpg_block 53 = .ok (.goto (-34), 3) := by decide +kernel
theorem d_Mpg_block_56 : decode b_Mpg_block 56 = .ok (.aload_n 0, 1) := by decide +kernel
theorem d_Mpg_block_57 : decode b_Mpg_block 57 = .ok (.ldc 93, 2) := by decide +kernel
theorem d_Mpg_block_59 : decode b_Mpg_block 59 = .ok (.invokevirtual 439, 3) := by decide +kernel
theorem d_Mpg_block_62 : decode b_Mpg_block 62 = .ok (.iload_n 1, 1) := by decide +kernel
theorem d_Mpg_block_63 : decode b_Mpg_block 63 = .ok (.ireturn, 1) := by decide +kernel
theorem q_Mpg_block : px_y y_Mpg_block 0 := by unfold px_y; decide +kernel
set_option maxHeartbeats 4000000 in
set_option maxRecDepth 100000 in
theorem c_mp_block (l : Launch) (D : va_G) (cs : Nat → ClassId) (h : Nat) (r : Nat → Nat) (g : Nat → Nat → Option Nat) (tf : Nat → Int32) (ta : Nat → Nat → Int32) (cf : Nat → Int32) (ca : Nat → Nat → Int32) (ef : Nat → Int32) (ea : Nat → Nat → Int32) (xf : Nat → Int32) (xa : Nat → Nat → Int32) (pf : Nat → Int32) (na : Nat → Nat → Int32) (ma : Nat → Nat → Int32) (wa : Nat → Nat → Int32) (lv : Nat) (g0 : 0 ≤ (pf 11).toInt) (g1 : (pf 11).toInt < (tf 6).toInt) (g2 : (tf 6).toInt ≤ 2049) (g3 : 0 ≤ (pf 12).toInt) (g4 : (pf 12).toInt ≤ 60) (g5 : 0 ≤ (pf 13).toInt) (g6 : (pf 13).toInt ≤ (pf 11).toInt + 10) (g7 : 0 ≤ (pf 26).toInt) (g8 : (pf 26).toInt ≤ (pf 12).toInt) (g9 : 61 ≤ (pf 12).toInt + (lv : Int)) (g10 : lv ≤ 61) (hlf : l.flags = pinnedFlags ++ [noTraceFlag]) (htk : TkI tf ta) (hfs : FsI (tf 6).toInt (pf 13).toInt na) (hLT : LvT l D cs lv) : ThI l y_Mpg_block b_Mpg_block 4 (.int) D cs (8 * lv + 27) (220 * lv + 1240) [.ref h] [wdP cs h r g tf ta pf na ma wa cf ca ef ea xf xa] (oX (fun A U H => (oN A U H) ∧ (oP A g U H)) [wdP cs h r g tf ta pf na ma wa cf ca ef ea xf xa]) "java/lang/IllegalArgumentException" (fun v ps => ∃ (pf' : Nat → Int32) (na' : Nat → Nat → Int32) (ma' : Nat → Nat → Int32) (wa' : Nat → Nat → Int32), (ps = [wdP cs h r g tf ta pf' na' ma' wa' cf ca ef ea xf xa]) ∧ ((pf 11).toInt + 1 ≤ (pf' 11).toInt) ∧ ((pf' 11).toInt < (tf 6).toInt) ∧ ((pf 13).toInt + 1 ≤ (pf' 13).toInt) ∧ ((pf' 13).toInt - (pf 13).toInt ≤ (pf' 11).toInt - (pf 11).toInt) ∧ (bp ta (pf 11) + 1 ≤ bp ta (pf' 11)) ∧ ((pf' 12).toInt = (pf 12).toInt) ∧ ((pf' 24).toInt = (pf 24).toInt) ∧ ((pf' 25).toInt = (pf 25).toInt) ∧ ((pf' 26).toInt = (pf 26).toInt) ∧ (FrB (pf 13).toInt na ma na' ma') ∧ (FrW (pf 26).toInt wa wa') ∧ (VlS ta (tf 6).toInt na' ma' v (pf 13).toInt (pf' 13).toInt (3 * (bp ta (pf' 11) - bp ta (pf 11))) (200 - (pf 12).toInt)) ∧ (bp ta (pf 11) + 2 ≤ bp ta (pf' 11)) ∧ (BkN na' v) ∧ (FsI (tf 6).toInt (pf' 13).toInt na')) (fun ps => ∃ (pf' : Nat → Int32) (na' : Nat → Nat → Int32) (ma' : Nat → Nat → Int32) (wa' : Nat → Nat → Int32), ps = [wdP cs h r g tf ta pf' na' ma' wa' cf ca ef ea xf xa] ∧ 0 ≤ (pf' 11).toInt ∧ (pf' 11).toInt + 1 ≤ (tf 6).toInt) := by
  refine th_enter (by decide) (Nat.le_of_ble_eq_true rfl) ?_
  intro p e s m below meth c A ls hAe S hr hlk hnm hA hT hX hw hl hne hadm
  have hl : lv_has ls 4 [(0, .ref h)] := hl
  have cstm1 : ((-1) : Int32).toInt = (-1) := rfl
  have cst20 : (20 : Int32).toInt = 20 := rfl
  have hX : (fun A U H => (oN A U H) ∧ (oP A g U H)) A s s.heap := by rw [hAe]; exact hX
  obtain ⟨hN, hP⟩ := hX
  have hZ := hP.1
  have hF0 := hP.2.1
  have hfb : FrB (pf 13).toInt na ma na ma := FrB.rf
  have hfw : FrW (pf 26).toInt wa wa := FrW.rf
  have J19 : ∀ (n_19 : Nat) (pf_19 : Nat → Int32) (na_19 : Nat → Nat → Int32) (ma_19 : Nat → Nat → Int32) (wa_19 : Nat → Nat → Int32) (x19_1 x19_2 : Int32) (H : Heap) (locs : List Loc) (ls : Array Slot), ((pf_19 24).toInt = (pf 24).toInt) → ((pf_19 25).toInt = (pf 25).toInt) → ((pf_19 26).toInt = (pf 26).toInt) → ((pf_19 12).toInt = (pf 12).toInt + 1) → ((pf_19 12).toInt ≤ 60) → ((pf 11).toInt + 1 ≤ (pf_19 11).toInt) → ((pf_19 11).toInt < (tf 6).toInt) → (x19_1.toInt = (pf 13).toInt) → (x19_1.toInt < (pf_19 13).toInt) → ((pf_19 13).toInt - (pf 13).toInt ≤ (pf_19 11).toInt - (pf 11).toInt) → (bp ta (pf 11) + 1 ≤ bp ta (pf_19 11)) → (x19_2.toInt = -1 ∨ x19_1.toInt + 1 ≤ x19_2.toInt) → (x19_2.toInt < (pf_19 13).toInt) → (FrB (pf 13).toInt na ma na_19 ma_19) → (FrW (pf 26).toInt wa wa_19) → (NdF (tf 6).toInt na_19 x19_1 20 (pf 11)) → (ZfS ta (tf 6).toInt na_19 ma_19 (na_19 17) x19_1 x19_2 (x19_1.toInt + 1) (pf_19 13).toInt (3 * (bp ta (pf_19 11) - bp ta (pf 11))) (199 - (pf 12).toInt)) → (FsI (tf 6).toInt (pf_19 13).toInt na_19) → (tf 6).toInt - (pf_19 11).toInt < (n_19 : Int) → pw D A s.heap H locs [wdP cs h r g tf ta pf_19 na_19 ma_19 wa_19 cf ca ef ea xf xa] → lv_has ls 4 [(0, .ref h), (1, .int x19_1), (2, .int x19_2)] → W p l e { frames := (8 * lv + 27), cells := 1, slots := 6, locals := (220 * lv + 1240) } s m [.ref h].toArray below meth c H locs 0 0 (tx_MQ below (thQi D (va_A ([wdP cs h r g tf ta pf na ma wa cf ca ef ea xf xa] : List va_W).flatten s.heap.size) "java/lang/IllegalArgumentException" (fun v ps => ∃ (pf' : Nat → Int32) (na' : Nat → Nat → Int32) (ma' : Nat → Nat → Int32) (wa' : Nat → Nat → Int32), (ps = [wdP cs h r g tf ta pf' na' ma' wa' cf ca ef ea xf xa]) ∧ ((pf 11).toInt + 1 ≤ (pf' 11).toInt) ∧ ((pf' 11).toInt < (tf 6).toInt) ∧ ((pf 13).toInt + 1 ≤ (pf' 13).toInt) ∧ ((pf' 13).toInt - (pf 13).toInt ≤ (pf' 11).toInt - (pf 11).toInt) ∧ (bp ta (pf 11) + 1 ≤ bp ta (pf' 11)) ∧ ((pf' 12).toInt = (pf 12).toInt) ∧ ((pf' 24).toInt = (pf 24).toInt) ∧ ((pf' 25).toInt = (pf 25).toInt) ∧ ((pf' 26).toInt = (pf 26).toInt) ∧ (FrB (pf 13).toInt na ma na' ma') ∧ (FrW (pf 26).toInt wa wa') ∧ (VlS ta (tf 6).toInt na' ma' v (pf 13).toInt (pf' 13).toInt (3 * (bp ta (pf' 11) - bp ta (pf 11))) (200 - (pf 12).toInt)) ∧ (bp ta (pf 11) + 2 ≤ bp ta (pf' 11)) ∧ (BkN na' v) ∧ (FsI (tf 6).toInt (pf' 13).toInt na')) (fun ps => ∃ (pf' : Nat → Int32) (na' : Nat → Nat → Int32) (ma' : Nat → Nat → Int32) (wa' : Nat → Nat → Int32), ps = [wdP cs h r g tf ta pf' na' ma' wa' cf ca ef ea xf xa] ∧ 0 ≤ (pf' 11).toInt ∧ (pf' 11).toInt + 1 ≤ (tf 6).toInt) s.heap.size (tot s.heap)) [.ref h].toArray s 1 6 A) (F0 m 19 ls []) := by
    intro  n_19
    induction n_19 with
    | zero =>
      intro pf_19 na_19 ma_19 wa_19 x19_1 x19_2 H locs ls k19_0 k19_1 k19_2 k19_3 k19_4 k19_5 k19_6 k19_7 k19_8 k19_9 k19_10 k19_11 k19_12 k19_13 k19_14 k19_15 k19_16 k19_17 hm hw hl
      have lx19_1 := Int32.le_toInt x19_1
      have ux19_1 := Int32.toInt_lt x19_1
      have lx19_2 := Int32.le_toInt x19_2
      have ux19_2 := Int32.toInt_lt x19_2
      have hfb := k19_13
      have hfw := k19_14
      have hf_14_x19_1 := k19_15.2.1
      have hf_15_x19_1 := k19_15.2.2.1
      have hf_21_x19_1 := k19_15.2.2.2.2
      have hnt_x19_1 := k19_15.2.2.2.1
      obtain ⟨b1, hf_17_x19_1, hrw_x19_2⟩ := k19_16
      have hfs := k19_17
      exact absurd hm (by first | with_reducible rfl | with_reducible assumption | omega)
    | succ n_19 ih19 =>
      intro pf_19 na_19 ma_19 wa_19 x19_1 x19_2 H locs ls k19_0 k19_1 k19_2 k19_3 k19_4 k19_5 k19_6 k19_7 k19_8 k19_9 k19_10 k19_11 k19_12 k19_13 k19_14 k19_15 k19_16 k19_17 hm hw hl
      have lx19_1 := Int32.le_toInt x19_1
      have ux19_1 := Int32.toInt_lt x19_1
      have lx19_2 := Int32.le_toInt x19_2
      have ux19_2 := Int32.toInt_lt x19_2
      have hfb := k19_13
      have hfw := k19_14
      have hf_14_x19_1 := k19_15.2.1
      have hf_15_x19_1 := k19_15.2.2.1
      have hf_21_x19_1 := k19_15.2.2.2.2
      have hnt_x19_1 := k19_15.2.2.2.1
      obtain ⟨b2, hf_17_x19_1, hrw_x19_2⟩ := k19_16
      have hfs := k19_17
      refine lv_aload_n S.x S.b d_Mpg_block_19 rfl (lv_at hl 0 rfl) ?_
      obtain ⟨sk3, hRsk3, st4, sb5, hSsk3⟩ := oP_lit hP (k := 93) (tx := "}") (n := 1) (List.mem_of_getElem? (i := 38) rfl)
      refine va_ldcS S.x S.b S.own hRsk3 d_Mpg_block_20 ?_
      refine px_calli (pr := []) (px_runV (As := [.ref sk3]) (rest := []) S (c_mp_is l D cs sk3 1 h r g tf ta pf_19 na_19 ma_19 wa_19 cf ca ef ea xf xa   (show 0 ≤ (pf_19 11).toInt from by first | exact oz_06d7f15a5c k19_5 g0 | omega) (show (pf_19 11).toInt < (tf 6).toInt from by first | exact k19_6 | omega) (show (tf 6).toInt ≤ 2049 from by first | exact g2 | omega) (show 1 ≤ 100 from by first | decide | omega) htk _) hT (pr := []) (pcs := [wdP cs h r g tf ta pf_19 na_19 ma_19 wa_19 cf ca ef ea xf xa]) hw (oX_call (P := (fun A U H => (oP A g U H) ∧ (StS A sk3 1 U H))) (pr := []) (oG_and oG_P oG_Q) hw hA ⟨hP, ⟨_, _, hSsk3⟩⟩) (px_recv hT hw 0 0 rfl rfl rfl) m11_217 m11_214 m11_216 ms_8_14 m1_21 q_Mpg_is ⟨show 3 + 1 ≤ (8 * lv + 27) from by first | with_reducible rfl | with_reducible assumption | omega, show 8 + (2 + 11) + 120 ≤ (220 * lv + 1240) from by first | with_reducible rfl | with_reducible assumption | omega⟩ hl.1 rfl (Nat.le_of_ble_eq_true rfl) d_Mpg_block_22 ⟨Nat.le_of_ble_eq_true rfl, Nat.le_of_ble_eq_true rfl⟩) hw hA (fun v7 p6 H locs hp6 hw => ?_)
      obtain ⟨rfl, e8, e9⟩ := hp6
      have e8 := z_rng e8
      have e9 : v7.toInt = 1 → (pf_19 11).toInt + 1 < (tf 6).toInt ∧ so ta (pf_19 11) = 5 := e9
      have hw : pw D A s.heap H locs [wdP cs h r g tf ta pf_19 na_19 ma_19 wa_19 cf ca ef ea xf xa] := hw
      have lv7 := Int32.le_toInt v7
      have uv7 := Int32.toInt_lt v7
      refine lv_if_ne (tgt := 56) S.x S.b d_Mpg_block_25 (by decide) (fun c10 => ?_) (fun c10 => ?_)
      · have nc10 : ¬ v7.toInt = (0 : Int) := mt (i_eq (x := v7) (y := 0)).mpr c10
        refine lv_aload_n S.x S.b d_Mpg_block_56 rfl (lv_at hl 0 rfl) ?_
        obtain ⟨sk11, hRsk11, st12, sb13, hSsk11⟩ := oP_lit hP (k := 93) (tx := "}") (n := 1) (List.mem_of_getElem? (i := 38) rfl)
        refine va_ldcS S.x S.b S.own hRsk11 d_Mpg_block_57 ?_
        refine th_callv (ps0 := [wdP cs h r g tf ta pf na ma wa cf ca ef ea xf xa]) (pr := []) (pcs := [wdP cs h r g tf ta pf_19 na_19 ma_19 wa_19 cf ca ef ea xf xa]) (As := [.ref sk11]) (rest := []) (c_mp_closes l D cs sk11 1 h r g tf ta na_19 ma_19 wa_19 cf ca ef ea xf xa pf_19   (show 0 ≤ (pf_19 11).toInt from by first | exact oz_06d7f15a5c k19_5 g0 | omega) (show (pf_19 11).toInt < (tf 6).toInt from by first | exact k19_6 | omega) (show (tf 6).toInt ≤ 2049 from by first | exact g2 | omega) (show 1 ≤ (pf_19 12).toInt from by first | exact oz_e5e326f075 k19_3 g3 | omega) (show (pf_19 12).toInt ≤ 60 from by first | exact k19_4 | omega) (show 1 ≤ 100 from by first | decide | omega) hlf htk) S hT hw (oX_call (P := (fun A U H => (oN A U H) ∧ (oP A g U H) ∧ (StS A sk11 1 U H))) (pr := []) (oG_and oG_N (oG_and oG_P oG_Q)) hw hA ⟨hN, hP, ⟨_, _, hSsk11⟩⟩) (px_recv hT hw 0 0 rfl rfl rfl) m12_53 m12_50 m12_52 ms_9_14 m1_21 q_Mpg_closes ⟨show 8 + 1 ≤ (8 * lv + 27) from by first | with_reducible rfl | with_reducible assumption | omega, show 8 + (2 + 11) + 280 ≤ (220 * lv + 1240) from by first | with_reducible rfl | with_reducible assumption | omega⟩ hl.1 rfl (Nat.le_of_ble_eq_true rfl) d_Mpg_block_59 ⟨Nat.le_of_ble_eq_true rfl, Nat.le_of_ble_eq_true rfl⟩ hne hlk hA hAe (fun o t h => Or.inr h) ?_ (fun p16 H locs hp16 hw => ?_)
        · exact fun p1 H1 locs1 hp hw => by obtain ⟨pq1, pq2, pq3, pq4, rfl, hq1, hq2⟩ := hp; exact ⟨_, ⟨pq1, pq2, pq3, pq4, rfl, hq1, hq2⟩, hw⟩
        obtain ⟨pf15, rfl, e18, e19, e20, e21, e22, e23, e24, e25⟩ := hp16
        have e18 : (pf15 11).toInt = (pf_19 11).toInt + 1 := e18
        have e19 : (pf15 11).toInt < (tf 6).toInt := e19
        have e20 : bp ta (pf_19 11) + 1 ≤ bp ta (pf15 11) := e20
        have e21 : (pf15 12).toInt = (pf_19 12).toInt - 1 := e21
        have e22 : (pf15 13).toInt = (pf_19 13).toInt := e22
        have e23 : (pf15 24).toInt = (pf_19 24).toInt := e23
        have e24 : (pf15 25).toInt = (pf_19 25).toInt := e24
        have e25 : (pf15 26).toInt = (pf_19 26).toInt := e25
        have hw : pw D A s.heap H locs [wdP cs h r g tf ta pf15 na_19 ma_19 wa_19 cf ca ef ea xf xa] := hw
        refine lv_iload_n S.x S.b d_Mpg_block_62 rfl (lv_at hl 1 rfl) ?_
        exact th_iret (v := x19_1) S hr rfl hlk hAe hw (⟨pf15, na_19, ma_19, wa_19, rfl, (show (pf 11).toInt + 1 ≤ (pf15 11).toInt from by first | exact oz_65cc19c39a k19_5 e18 | omega), (show (pf15 11).toInt < (tf 6).toInt from by first | exact e19 | omega), (show (pf 13).toInt + 1 ≤ (pf15 13).toInt from by first | exact oz_5e3266e4e3 k19_7 e22 k19_8 | omega), (show (pf15 13).toInt - (pf 13).toInt ≤ (pf15 11).toInt - (pf 11).toInt from by first | exact oz_050fdfc2ab k19_9 e18 e22 | omega), (show bp ta (pf 11) + 1 ≤ bp ta (pf15 11) from by first | exact oz_132e547139 k19_10 e20 | omega), (show (pf15 12).toInt = (pf 12).toInt from by first | exact oz_7671382d8f k19_3 e21 | omega), (show (pf15 24).toInt = (pf 24).toInt from by first | exact oz_1687f4cc65 k19_0 e23 | omega), (show (pf15 25).toInt = (pf 25).toInt from by first | exact oz_1687f4cc65 k19_1 e24 | omega), (show (pf15 26).toInt = (pf 26).toInt from by first | exact oz_1687f4cc65 k19_2 e25 | omega), (show FrB (pf 13).toInt na ma na_19 ma_19 from hfb), (show FrW (pf 26).toInt wa wa_19 from hfw), (show VlS ta (tf 6).toInt na_19 ma_19 x19_1 (pf 13).toInt (pf15 13).toInt (3 * (bp ta (pf15 11) - bp ta (pf 11))) (200 - (pf 12).toInt) from (VlV.le (st_block (hi := (pf15 13).toInt) (D := (199 - (pf 12).toInt)) (x := x19_2) ⟨by first | with_reducible rfl | with_reducible assumption | omega, hf_14_x19_1, hf_15_x19_1, ⟨by first | with_reducible rfl | with_reducible assumption | omega, by first | with_reducible rfl | with_reducible assumption | omega⟩, hf_21_x19_1⟩ (by first | with_reducible rfl | with_reducible assumption | omega) (by first | with_reducible rfl | with_reducible assumption | omega) (by rw [hf_17_x19_1]; exact RzV.le hrw_x19_2 (by first | with_reducible rfl | with_reducible assumption | omega) (by first | with_reducible rfl | with_reducible assumption | omega) (Int.le_refl _) (by first | with_reducible rfl | with_reducible assumption | omega))) (by first | with_reducible rfl | with_reducible assumption | omega) (by first | with_reducible rfl | with_reducible assumption | omega) (by first | with_reducible rfl | with_reducible assumption | omega) (by first | with_reducible rfl | with_reducible assumption | omega))), (show bp ta (pf 11) + 2 ≤ bp ta (pf15 11) from by first | exact oz_1358e0d823 k19_10 e20 | omega), (show BkN na_19 x19_1 from hf_14_x19_1), (show FsI (tf 6).toInt (pf15 13).toInt na_19 from (FsI.le hfs (by first | with_reducible rfl | with_reducible assumption | omega)))⟩) d_Mpg_block_63
      · have nc10 : v7.toInt = (0 : Int) := (i_eq (x := v7) (y := 0)).mp c10
        refine lv_aload_n S.x S.b d_Mpg_block_28 rfl (lv_at hl 0 rfl) ?_
        refine th_calli (ps0 := [wdP cs h r g tf ta pf na ma wa cf ca ef ea xf xa]) (pr := []) (pcs := [wdP cs h r g tf ta pf_19 na_19 ma_19 wa_19 cf ca ef ea xf xa]) (As := []) (rest := []) ((hLT.go (by first | with_reducible rfl | with_reducible assumption | omega)) h r g tf ta cf ca ef ea xf xa pf_19 na_19 ma_19 wa_19   (show 0 ≤ (pf_19 11).toInt from by first | exact oz_06d7f15a5c k19_5 g0 | omega) (show (pf_19 11).toInt < (tf 6).toInt from by first | exact k19_6 | omega) (show (tf 6).toInt ≤ 2049 from by first | exact g2 | omega) (show 0 ≤ (pf_19 12).toInt from by first | exact oz_ae613611c0 k19_3 g3 | omega) (show (pf_19 12).toInt ≤ 60 from by first | exact k19_4 | omega) (show 0 ≤ (pf_19 13).toInt from by first | exact oz_36c2aaaab5 k19_8 g5 k19_7 | omega) (show (pf_19 13).toInt ≤ (pf_19 11).toInt + 10 from by first | exact oz_80aa4b08cf k19_9 g6 | omega) (show 0 ≤ (pf_19 26).toInt from by first | exact oz_f3ebed1ad0 k19_2 g7 | omega) (show (pf_19 26).toInt ≤ (pf_19 12).toInt from by first | exact oz_173d5d0a35 k19_2 k19_3 g8 | omega) (show 61 ≤ (pf_19 12).toInt + ((lv - 1 : Nat) : Int) from by first | with_reducible rfl | with_reducible assumption | omega) (show lv - 1 ≤ 61 from by first | with_reducible rfl | with_reducible assumption | omega) hlf htk (FsI.le (N' := (pf_19 13).toInt) hfs (by first | with_reducible rfl | with_reducible assumption | omega))) S hT hw (oX_call (P := (fun A U H => (oN A U H) ∧ (oP A g U H))) (pr := []) (oG_and oG_N oG_P) hw hA ⟨hN, hP⟩) (px_recv hT hw 0 0 rfl rfl rfl) m12_101 m12_98 m12_100 ms_10_10 m1_21 q_Mpg_statement ⟨show (8 * (lv - 1) + 28) + 1 ≤ (8 * lv + 27) from by first | with_reducible rfl | with_reducible assumption | omega, show 8 + (2 + 11) + (220 * (lv - 1) + 1280) ≤ (220 * lv + 1240) from by first | with_reducible rfl | with_reducible assumption | omega⟩ hl.1 rfl (Nat.le_of_ble_eq_true rfl) d_Mpg_block_29 ⟨Nat.le_of_ble_eq_true rfl, Nat.le_of_ble_eq_true rfl⟩ hne hlk hA hAe (fun o t h => Or.inr h) ?_ (fun v35 p34 H locs hp34 hw => ?_)
        · exact fun p1 H1 locs1 hp hw => by obtain ⟨pq1, pq2, pq3, pq4, rfl, hq1, hq2⟩ := hp; exact ⟨_, ⟨pq1, pq2, pq3, pq4, rfl, hq1, hq2⟩, hw⟩
        obtain ⟨pf30, na31, ma32, wa33, rfl, e36, e37, e38, e39, e40, e41, e42, e43, e44, e45, e46, e47, e48⟩ := hp34
        have e36 : (pf_19 11).toInt + 1 ≤ (pf30 11).toInt := e36
        have e37 : (pf30 11).toInt < (tf 6).toInt := e37
        have e38 : (pf_19 13).toInt + 1 ≤ (pf30 13).toInt := e38
        have e39 : (pf30 13).toInt - (pf_19 13).toInt ≤ (pf30 11).toInt - (pf_19 11).toInt := e39
        have e40 : bp ta (pf_19 11) + 1 ≤ bp ta (pf30 11) := e40
        have e41 : (pf30 12).toInt = (pf_19 12).toInt := e41
        have e42 : (pf30 24).toInt = (pf_19 24).toInt := e42
        have e43 : (pf30 25).toInt = (pf_19 25).toInt := e43
        have e44 : (pf30 26).toInt = (pf_19 26).toInt := e44
        have e45 : FrB (pf_19 13).toInt na_19 ma_19 na31 ma32 := e45
        have hf_14_x19_1 := (fb_n e45 (by first | with_reducible rfl | with_reducible assumption | omega) (by first | with_reducible rfl | with_reducible assumption | omega)).trans hf_14_x19_1
        have hf_15_x19_1 := (fb_n e45 (by first | with_reducible rfl | with_reducible assumption | omega) (by first | with_reducible rfl | with_reducible assumption | omega)).trans hf_15_x19_1
        have hf_21_x19_1 := (fb_n e45 (by first | with_reducible rfl | with_reducible assumption | omega) (by first | with_reducible rfl | with_reducible assumption | omega)).trans hf_21_x19_1
        have hf_17_x19_1 := (fb_n e45 (by first | with_reducible rfl | with_reducible assumption | omega) (by first | with_reducible rfl | with_reducible assumption | omega)).trans hf_17_x19_1
        have hrw_x19_2 := hrw_x19_2.ag fs_ok (FrB.ag e45 (by first | with_reducible rfl | with_reducible assumption | omega))
        have hfb := hfb.tr e45 (by first | with_reducible rfl | with_reducible assumption | omega)
        have e46 : FrW (pf_19 26).toInt wa_19 wa33 := e46
        have hfw := hfw.tr e46 (by first | with_reducible rfl | with_reducible assumption | omega)
        have e47 : VlS ta (tf 6).toInt na31 ma32 v35 (pf_19 13).toInt (pf30 13).toInt (3 * (bp ta (pf30 11) - bp ta (pf_19 11))) (200 - (pf_19 12).toInt) := e47
        have hv_v35 := e47
        have hn_hv_v35 := hv_v35.num fs_ok
        have e48 : FsI (tf 6).toInt (pf30 13).toInt na31 := e48
        have hfs := e48
        have hw : pw D A s.heap H locs [wdP cs h r g tf ta pf30 na31 ma32 wa33 cf ca ef ea xf xa] := hw
        have lv35 := Int32.le_toInt v35
        have uv35 := Int32.toInt_lt v35
        refine lv_istore_n (lv' := [(3, .int v35), (0, .ref h), (1, .int x19_1), (2, .int x19_2)]) S.x S.b d_Mpg_block_32 rfl hl (by decide) rfl (fun ls hl => ?_)
        refine lv_aload_n S.x S.b d_Mpg_block_33 rfl (lv_at hl 1 rfl) ?_
        refine px_get S k_Mpg hT hw 0 0 17 (v := .ref (r 17)) rfl rfl rfl (by decide) m10_1 d_Mpg_block_34 ?_
        refine lv_iload_n S.x S.b d_Mpg_block_37 rfl (lv_at hl 2 rfl) ?_
        refine lv_aload_n S.x S.b d_Mpg_block_38 rfl (lv_at hl 1 rfl) ?_
        refine lv_aload_n S.x S.b d_Mpg_block_39 rfl (lv_at hl 1 rfl) ?_
        refine px_get S k_Mpg hT hw 0 0 17 (v := .ref (r 17)) rfl rfl rfl (by decide) m10_1 d_Mpg_block_40 ?_
        refine lv_iload_n S.x S.b d_Mpg_block_43 rfl (lv_at hl 2 rfl) ?_
        refine px_iald S hT hw 0 13 (n := 2100) (f := (na31 17)) rfl gp_17 (x := x19_1) (vp_in_iff.mpr (by first | exact oz_9d4072bda4 k19_7 g5 k19_8 g6 k19_9 e36 e37 g2 | (constructor <;> omega))) d_Mpg_block_44 ?_
        refine lv_topi (fun z49 ez49 => ?_)
        have lz49 := Int32.le_toInt z49
        have uz49 := Int32.toInt_lt z49
        have hsz49 : b2 = z49 := (ez49.trans hf_17_x19_1).symm; subst hsz49
        refine lv_iload_n S.x S.b d_Mpg_block_45 rfl (lv_at hl 3 rfl) ?_
        refine lv_iload_n S.x S.b d_Mpg_block_46 rfl (lv_at hl 0 rfl) ?_
        refine px_calli (pr := []) (px_runV (As := [.int b2, .int x19_2, .int v35]) (rest := [.int x19_1, .ref (r 17)]) S (c_mp_hang l D cs h r g tf ta pf30 ma32 wa33 cf ca ef ea xf xa na31 b2 x19_2 v35  (show x19_2.toInt < 2100 from by first | exact oz_3c5529d13a k19_12 k19_9 g6 e36 e37 g2 | omega) htk _) hT (pr := []) (pcs := [wdP cs h r g tf ta pf30 na31 ma32 wa33 cf ca ef ea xf xa]) hw px_X.tt (px_recv hT hw 0 0 rfl rfl rfl) m12_77 m12_74 m12_76 ms_10_4 m1_21 q_Mpg_hang ⟨show 0 + 1 ≤ (8 * lv + 27) from by first | with_reducible rfl | with_reducible assumption | omega, show 8 + (4 + 11) + 0 ≤ (220 * lv + 1240) from by first | with_reducible rfl | with_reducible assumption | omega⟩ hl.1 rfl (Nat.le_of_ble_eq_true rfl) d_Mpg_block_47 ⟨Nat.le_of_ble_eq_true rfl, Nat.le_of_ble_eq_true rfl⟩) hw hA (fun v53 p52 H locs hp52 hw => ?_)
        obtain ⟨na51, rfl, e54⟩ := hp52
        have e54 : Hg na31 na51 b2 x19_2 v35 v53 := e54
        have hf_14_x19_1 := (Hg.fld e54 (by first | with_reducible rfl | with_reducible assumption | omega) (by first | with_reducible rfl | with_reducible assumption | omega)).trans hf_14_x19_1
        have hf_15_x19_1 := (Hg.fld e54 (by first | with_reducible rfl | with_reducible assumption | omega) (by first | with_reducible rfl | with_reducible assumption | omega)).trans hf_15_x19_1
        have hf_21_x19_1 := (Hg.fld e54 (by first | with_reducible rfl | with_reducible assumption | omega) (by first | with_reducible rfl | with_reducible assumption | omega)).trans hf_21_x19_1
        have hf_17_x19_1 := (Hg.fld e54 (by first | with_reducible rfl | with_reducible assumption | omega) (by first | with_reducible rfl | with_reducible assumption | omega)).trans hf_17_x19_1
        have hrw_v35 := Hg.row e54 fs_ok hrw_x19_2 (VlV.le hv_v35 (by first | with_reducible rfl | with_reducible assumption | omega) (Int.le_refl _) (Int.le_refl _) (by first | with_reducible rfl | with_reducible assumption | omega)) (by first | with_reducible rfl | with_reducible assumption | omega) (by first | with_reducible rfl | with_reducible assumption | omega)
        have hn_hrw_v35 := hrw_v35.num
        have hfb := Hg.fb e54 hfb (by first | with_reducible rfl | with_reducible assumption | omega)
        have hfs := FsI.hg hfs e54
        have hw : pw D A s.heap H locs [wdP cs h r g tf ta pf30 na51 ma32 wa33 cf ca ef ea xf xa] := hw
        have lv53 := Int32.le_toInt v53
        have uv53 := Int32.toInt_lt v53
        refine px_iast S hT hw 0 13 (n := 2100) (f := (na51 17)) (x := x19_1) (y := v53) rfl gp_17 (vp_in_iff.mpr (by constructor <;> omega)) d_Mpg_block_50 (w' := wdP cs h r g tf ta pf30 (va_up na51 17 (upd (na51 17) x19_1.toNatClampNeg v53)) ma32 wa33 cf ca ef ea xf xa) (ps' := [wdP cs h r g tf ta pf30 (va_up na51 17 (upd (na51 17) x19_1.toNatClampNeg v53)) ma32 wa33 cf ca ef ea xf xa]) sp_17 rfl (fun H locs hw => ?_)
        obtain ⟨na55, hu_na55⟩ : ∃ y : Nat → Nat → Int32, y = va_up na51 17 (upd (na51 17) x19_1.toNatClampNeg v53) := ⟨_, rfl⟩
        have hw : pw D A s.heap _ _ [wdP cs h r g tf ta pf30 na55 ma32 wa33 cf ca ef ea xf xa] := (by rw [hu_na55]; exact hw)
        have hrw_v35 := hrw_v35.ag fs_ok (ag_n hu_na55 (by first | with_reducible rfl | with_reducible assumption | omega) (by first | with_reducible rfl | with_reducible assumption | omega))
        have hf_14_x19_1 := (fl_n hu_na55 (by decide)).trans hf_14_x19_1
        have hf_15_x19_1 := (fl_n hu_na55 (by decide)).trans hf_15_x19_1
        have hf_21_x19_1 := (fl_n hu_na55 (by decide)).trans hf_21_x19_1
        have hf_17_x19_1 : na55 17 x19_1.toNatClampNeg = v53 := (by rw [hu_na55, va_up_s, pk_us])
        have hfs : FsI _ _ na55 := (by rw [hu_na55]; exact FsI.un hfs (by decide))
        have hfb : FrB (pf 13).toInt na ma na55 ma32 := (by rw [hu_na55]; exact FrB.un hfb (by first | with_reducible rfl | with_reducible assumption | omega) (by first | with_reducible rfl | with_reducible assumption | omega))
        refine lv_iload_n S.x S.b d_Mpg_block_51 rfl (lv_at hl 0 rfl) ?_
        refine lv_istore_n (lv' := [(2, .int v35), (3, .int v35), (0, .ref h), (1, .int x19_1)]) S.x S.b d_Mpg_block_52 rfl hl (by decide) rfl (fun ls hl => ?_)
        refine lv_goto (tgt := 19) S.x S.b d_Mpg_block_53 (by decide) ?_
        exact ih19 pf30 na55 ma32 wa33 x19_1 v35 _ _ ls (show (pf30 24).toInt = (pf 24).toInt from by first | exact oz_1687f4cc65 k19_0 e42 | omega) (show (pf30 25).toInt = (pf 25).toInt from by first | exact oz_1687f4cc65 k19_1 e43 | omega) (show (pf30 26).toInt = (pf 26).toInt from by first | exact oz_1687f4cc65 k19_2 e44 | omega) (show (pf30 12).toInt = (pf 12).toInt + 1 from by first | exact oz_d71c8747a8 k19_3 e41 | omega) (show (pf30 12).toInt ≤ 60 from by first | exact oz_a3db38fa3c e41 k19_4 | omega) (show (pf 11).toInt + 1 ≤ (pf30 11).toInt from by first | exact oz_132e547139 k19_5 e36 | omega) (show (pf30 11).toInt < (tf 6).toInt from by first | exact e37 | omega) (show x19_1.toInt = (pf 13).toInt from by first | exact k19_7 | omega) (show x19_1.toInt < (pf30 13).toInt from by first | exact oz_3a4745f90a k19_8 e38 | omega) (show (pf30 13).toInt - (pf 13).toInt ≤ (pf30 11).toInt - (pf 11).toInt from by first | exact oz_e76dadc267 k19_9 e39 | omega) (show bp ta (pf 11) + 1 ≤ bp ta (pf30 11) from by first | exact oz_132e547139 k19_10 e40 | omega) (show v35.toInt = -1 ∨ x19_1.toInt + 1 ≤ v35.toInt from by first | with_reducible rfl | with_reducible assumption | omega) (show v35.toInt < (pf30 13).toInt from by first | with_reducible rfl | with_reducible assumption | omega) (show FrB (pf 13).toInt na ma na55 ma32 from hfb) (show FrW (pf 26).toInt wa wa33 from hfw) (show NdF (tf 6).toInt na55 x19_1 20 (pf 11) from ⟨by first | with_reducible rfl | with_reducible assumption | omega, hf_14_x19_1, hf_15_x19_1, ⟨by first | with_reducible rfl | with_reducible assumption | omega, by first | with_reducible rfl | with_reducible assumption | omega⟩, hf_21_x19_1⟩) (show ZfS ta (tf 6).toInt na55 ma32 (na55 17) x19_1 v35 (x19_1.toInt + 1) (pf30 13).toInt (3 * (bp ta (pf30 11) - bp ta (pf 11))) (199 - (pf 12).toInt) from ⟨_, hf_17_x19_1, Or.inr (RwV.le hrw_v35 (by first | with_reducible rfl | with_reducible assumption | omega) (by first | with_reducible rfl | with_reducible assumption | omega) (by first | with_reducible rfl | with_reducible assumption | omega) (by first | with_reducible rfl | with_reducible assumption | omega))⟩) (show FsI (tf 6).toInt (pf30 13).toInt na55 from (FsI.le hfs (by first | with_reducible rfl | with_reducible assumption | omega))) (show (tf 6).toInt - (pf30 11).toInt < (n_19 : Int) from by first | exact oz_ecb2ca289a hm e36 | omega) hw (lv_sub hl [2, 3, 0] rfl)
  refine lv_aload_n S.x S.b d_Mpg_block_0 rfl (lv_at hl 0 rfl) ?_
  refine lv_bipush (v := 20) S.x S.b d_Mpg_block_1 (by decide) ?_
  refine lv_aload_n S.x S.b d_Mpg_block_3 rfl (lv_at hl 0 rfl) ?_
  refine px_get S k_Mpg hT hw 0 0 11 (v := .int (pf 11)) rfl rfl rfl (by decide) m9_235 d_Mpg_block_4 ?_
  refine px_calli (pr := []) (px_runV (As := [.int 20, .int (pf 11)]) (rest := []) S (c_mp_make l D cs h r g tf ta wa cf ca ef ea xf xa pf na ma 20 (pf 11)  (show 0 ≤ (pf 13).toInt from by first | exact g5 | omega) (show (pf 13).toInt < 2100 from by first | exact oz_3cbdbee99c g6 g1 g2 | omega) _) hT (pr := []) (pcs := [wdP cs h r g tf ta pf na ma wa cf ca ef ea xf xa]) hw px_X.tt (px_recv hT hw 0 0 rfl rfl rfl) m11_209 m11_206 m11_208 ms_8_12 m1_21 q_Mpg_make ⟨show 0 + 1 ≤ (8 * lv + 27) from by first | with_reducible rfl | with_reducible assumption | omega, show 8 + (3 + 11) + 0 ≤ (220 * lv + 1240) from by first | with_reducible rfl | with_reducible assumption | omega⟩ hl.1 rfl (Nat.le_of_ble_eq_true rfl) d_Mpg_block_7 ⟨Nat.le_of_ble_eq_true rfl, Nat.le_of_ble_eq_true rfl⟩) hw hA (fun v63 p62 H locs hp62 hw => ?_)
  obtain ⟨pf59, na60, ma61, rfl, e64, e65, e66, e67, e68, e69, e70, e71⟩ := hp62
  have e64 : v63.toInt = (pf 13).toInt := e64
  have e65 : (pf59 13).toInt = (pf 13).toInt + 1 := e65
  have e66 : (pf59 11).toInt = (pf 11).toInt := e66
  have e67 : (pf59 12).toInt = (pf 12).toInt := e67
  have e68 : (pf59 24).toInt = (pf 24).toInt := e68
  have e69 : (pf59 25).toInt = (pf 25).toInt := e69
  have e70 : (pf59 26).toInt = (pf 26).toInt := e70
  have e71 : MkN na ma na60 ma61 v63 (20 : Int32) (pf 11) := e71
  obtain ⟨qb721, qb722, qb723, qb724⟩ := tk_eq (ta := ta) (x := (pf59 11)) (y := (pf 11)) (by first | with_reducible rfl | with_reducible assumption | omega)
  have hmk_v63 := e71
  have hfm_v63 := MkN.frb (b := v63.toInt) hmk_v63 (by first | with_reducible rfl | with_reducible assumption | omega) (by first | with_reducible rfl | with_reducible assumption | omega)
  have hfs := FsI.mk hfs hmk_v63 (by first | with_reducible rfl | with_reducible assumption | omega) (by first | with_reducible rfl | with_reducible assumption | omega) (by first | with_reducible rfl | with_reducible assumption | omega) (by first | with_reducible rfl | with_reducible assumption | omega)
  have hfb := hfb.tr hfm_v63 (by first | with_reducible rfl | with_reducible assumption | omega)
  have hf_14_v63 := hmk_v63.2.1 (by decide) (by decide)
  have hf_15_v63 := hmk_v63.2.2.1
  have hf_17_v63 := hmk_v63.2.2.2.2.1
  have hf_21_v63 := hmk_v63.2.2.2.2.2.2.2.2.1
  clear hmk_v63 hfm_v63
  have hw : pw D A s.heap H locs [wdP cs h r g tf ta pf59 na60 ma61 wa cf ca ef ea xf xa] := hw
  have lv63 := Int32.le_toInt v63
  have uv63 := Int32.toInt_lt v63
  refine lv_istore_n (lv' := [(1, .int v63), (0, .ref h)]) S.x S.b d_Mpg_block_10 rfl hl (by decide) rfl (fun ls hl => ?_)
  refine lv_aload_n S.x S.b d_Mpg_block_11 rfl (lv_at hl 1 rfl) ?_
  obtain ⟨sk73, hRsk73, st74, sb75, hSsk73⟩ := oP_lit hP (k := 91) (tx := "{") (n := 1) (List.mem_of_getElem? (i := 37) rfl)
  refine va_ldcS S.x S.b S.own hRsk73 d_Mpg_block_12 ?_
  refine th_callv (ps0 := [wdP cs h r g tf ta pf na ma wa cf ca ef ea xf xa]) (pr := []) (pcs := [wdP cs h r g tf ta pf59 na60 ma61 wa cf ca ef ea xf xa]) (As := [.ref sk73]) (rest := []) (c_mp_opensMark l D cs sk73 1 h r g tf ta na60 ma61 wa cf ca ef ea xf xa pf59   (show 0 ≤ (pf59 11).toInt from by first | exact oz_f3ebed1ad0 e66 g0 | omega) (show (pf59 11).toInt < (tf 6).toInt from by first | exact oz_5d2fbac15b g1 e66 | omega) (show (tf 6).toInt ≤ 2049 from by first | exact g2 | omega) (show 0 ≤ (pf59 12).toInt from by first | exact oz_f3ebed1ad0 e67 g3 | omega) (show (pf59 12).toInt ≤ 60 from by first | exact oz_a3db38fa3c e67 g4 | omega) (show 1 ≤ 100 from by first | decide | omega) hlf htk) S hT hw (oX_call (P := (fun A U H => (oN A U H) ∧ (oP A g U H) ∧ (StS A sk73 1 U H))) (pr := []) (oG_and oG_N (oG_and oG_P oG_Q)) hw hA ⟨hN, hP, ⟨_, _, hSsk73⟩⟩) (px_recv hT hw 0 0 rfl rfl rfl) m11_213 m11_210 m11_212 ms_8_13 m1_21 q_Mpg_opensMark ⟨show 8 + 1 ≤ (8 * lv + 27) from by first | with_reducible rfl | with_reducible assumption | omega, show 8 + (2 + 11) + 240 ≤ (220 * lv + 1240) from by first | with_reducible rfl | with_reducible assumption | omega⟩ hl.1 rfl (Nat.le_of_ble_eq_true rfl) d_Mpg_block_14 ⟨Nat.le_of_ble_eq_true rfl, Nat.le_of_ble_eq_true rfl⟩ hne hlk hA hAe (fun o t h => Or.inr h) ?_ (fun p78 H locs hp78 hw => ?_)
  · exact fun p1 H1 locs1 hp hw => by obtain ⟨pq1, pq2, pq3, pq4, rfl, hq1, hq2⟩ := hp; exact ⟨_, ⟨pq1, pq2, pq3, pq4, rfl, hq1, hq2⟩, hw⟩
  obtain ⟨pf77, rfl, e80, e81, e82, e83, e84, e85, e86, e87, e88, e89⟩ := hp78
  have e80 : (pf77 11).toInt = (pf59 11).toInt + 1 := e80
  have e81 : (pf77 11).toInt < (tf 6).toInt := e81
  have e82 : bp ta (pf59 11) + sz ta (pf59 11) ≤ bp ta (pf77 11) := e82
  have e83 : 1 ≤ sz ta (pf59 11) := e83
  have e84 : (pf77 12).toInt = (pf59 12).toInt + 1 := e84
  have e85 : (pf59 12).toInt < 60 := e85
  have e86 : (pf77 13).toInt = (pf59 13).toInt := e86
  have e87 : (pf77 24).toInt = (pf59 24).toInt := e87
  have e88 : (pf77 25).toInt = (pf59 25).toInt := e88
  have e89 : (pf77 26).toInt = (pf59 26).toInt := e89
  have hw : pw D A s.heap H locs [wdP cs h r g tf ta pf77 na60 ma61 wa cf ca ef ea xf xa] := hw
  refine lv_iconst (v := (-1)) S.x S.b d_Mpg_block_17 (by decide) ?_
  refine lv_istore_n (lv' := [(2, .int (-1)), (1, .int v63), (0, .ref h)]) S.x S.b d_Mpg_block_18 rfl hl (by decide) rfl (fun ls hl => ?_)
  exact J19 (((tf 6).toInt - (pf77 11).toInt).toNat + 1) pf77 na60 ma61 wa v63 (-1) _ _ ls (show (pf77 24).toInt = (pf 24).toInt from by first | exact oz_1687f4cc65 e68 e87 | omega) (show (pf77 25).toInt = (pf 25).toInt from by first | exact oz_1687f4cc65 e69 e88 | omega) (show (pf77 26).toInt = (pf 26).toInt from by first | exact oz_1687f4cc65 e70 e89 | omega) (show (pf77 12).toInt = (pf 12).toInt + 1 from by first | exact oz_cbf156e4b5 e67 e84 | omega) (show (pf77 12).toInt ≤ 60 from by first | exact oz_6710fd9021 e84 e85 | omega) (show (pf 11).toInt + 1 ≤ (pf77 11).toInt from by first | exact oz_5a83f0d431 e66 e80 | omega) (show (pf77 11).toInt < (tf 6).toInt from by first | exact e81 | omega) (show v63.toInt = (pf 13).toInt from by first | exact e64 | omega) (show v63.toInt < (pf77 13).toInt from by first | exact oz_c94e31fc97 e64 e86 e65 | omega) (show (pf77 13).toInt - (pf 13).toInt ≤ (pf77 11).toInt - (pf 11).toInt from by first | exact oz_3b92106684 e65 e66 e80 e86 | omega) (show bp ta (pf 11) + 1 ≤ bp ta (pf77 11) from by first | exact oz_01a688a826 qb721 e82 e83 | omega) (show (-1 : Int) = -1 ∨ v63.toInt + 1 ≤ (-1 : Int) from by first | with_reducible rfl | with_reducible assumption | omega) (show (-1 : Int) < (pf77 13).toInt from by first | exact oz_7b131bab08 e86 e65 g5 | omega) (show FrB (pf 13).toInt na ma na60 ma61 from hfb) (show FrW (pf 26).toInt wa wa from hfw) (show NdF (tf 6).toInt na60 v63 20 (pf 11) from ⟨by first | with_reducible rfl | with_reducible assumption | omega, hf_14_v63, hf_15_v63, ⟨by first | with_reducible rfl | with_reducible assumption | omega, by first | with_reducible rfl | with_reducible assumption | omega⟩, hf_21_v63⟩) (show ZfS ta (tf 6).toInt na60 ma61 (na60 17) v63 (-1) (v63.toInt + 1) (pf77 13).toInt (3 * (bp ta (pf77 11) - bp ta (pf 11))) (199 - (pf 12).toInt) from ⟨_, hf_17_v63, Or.inl ⟨by decide, by decide, by first | with_reducible rfl | with_reducible assumption | omega⟩⟩) (show FsI (tf 6).toInt (pf77 13).toInt na60 from (FsI.le hfs (by first | with_reducible rfl | with_reducible assumption | omega))) (show (tf 6).toInt - (pf77 11).toInt < (((((tf 6).toInt - (pf77 11).toInt).toNat + 1 : Nat) : Int) : Int) from by first | exact oz_natlt | omega) hw (lv_sub hl [2, 1, 0] rfl)
