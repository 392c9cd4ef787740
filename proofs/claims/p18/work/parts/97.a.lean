theorem oz_d732c71c5b {n0 : Nat}  : 3 + 1 ≤ (8 * n0 + 27) := by omega
theorem oz_51cf0592dc {n0 : Nat}  : 8 + (2 + 11) + 120 ≤ (220 * n0 + 1240) := by omega
theorem oz_e5e326f075 {a0 a1 : Int} (h0 : a0 = a1 + 1) (h1 : 0 ≤ a1) : 1 ≤ a0 := by omega
theorem oz_13b6bbef4e {n0 : Nat}  : 8 + 1 ≤ (8 * n0 + 27) := by omega
theorem oz_af886dd490 {n0 : Nat}  : 8 + (2 + 11) + 280 ≤ (220 * n0 + 1240) := by omega
theorem oz_5e3266e4e3 {a0 a1 a2 a3 : Int} (h0 : a2 = a0) (h1 : a1 = a3) (h2 : a2 < a3) : a0 + 1 ≤ a1 := by omega
theorem oz_050fdfc2ab {a0 a1 a2 a3 a4 a5 : Int} (h0 : a4 - a1 ≤ a5 - a3) (h1 : a2 = a5 + 1) (h2 : a0 = a4) : a0 - a1 ≤ a2 - a3 := by omega
theorem oz_7671382d8f {a0 a1 a2 : Int} (h0 : a2 = a1 + 1) (h1 : a0 = a2 - 1) : a0 = a1 := by omega
theorem oz_1358e0d823 {a0 a1 a2 : Int} (h0 : a0 + 1 ≤ a2) (h1 : a2 + 1 ≤ a1) : a0 + 2 ≤ a1 := by omega
theorem oz_36c2aaaab5 {a0 a1 a2 : Int} (h0 : a1 < a0) (h1 : 0 ≤ a2) (h2 : a1 = a2) : 0 ≤ a0 := by omega
theorem oz_80aa4b08cf {a0 a1 a2 a3 : Int} (h0 : a0 - a2 ≤ a1 - a3) (h1 : a2 ≤ a3 + 10) : a0 ≤ a1 + 10 := by omega
theorem oz_173d5d0a35 {a0 a1 a2 a3 : Int} (h0 : a0 = a2) (h1 : a1 = a3 + 1) (h2 : a2 ≤ a3) : a0 ≤ a1 := by omega
theorem oz_9d4072bda4 {a0 a1 a2 a3 a4 a5 a6 : Int} (h0 : a0 = a1) (h1 : 0 ≤ a1) (h2 : a0 < a2) (h3 : a1 ≤ a3 + 10) (h4 : a2 - a1 ≤ a4 - a3) (h5 : a4 + 1 ≤ a5) (h6 : a5 < a6) (h7 : a6 ≤ 2049) : 0 ≤ a0 ∧ a0 < ((2100 : Nat) : Int) := by omega
theorem oz_3c5529d13a {a0 a1 a2 a3 a4 a5 a6 : Int} (h0 : a0 < a1) (h1 : a1 - a2 ≤ a3 - a4) (h2 : a2 ≤ a4 + 10) (h3 : a3 + 1 ≤ a5) (h4 : a5 < a6) (h5 : a6 ≤ 2049) : a0 < 2100 := by omega
theorem oz_4e4cac7810 {n0 : Nat}  : 0 + 1 ≤ (8 * n0 + 27) := by omega
theorem oz_16935ab76c {n0 : Nat}  : 8 + (4 + 11) + 0 ≤ (220 * n0 + 1240) := by omega
theorem oz_3a4745f90a {a0 a1 a2 : Int} (h0 : a0 < a2) (h1 : a2 + 1 ≤ a1) : a0 < a1 := by omega
theorem oz_e76dadc267 {a0 a1 a2 a3 a4 a5 : Int} (h0 : a4 - a1 ≤ a5 - a3) (h1 : a0 - a4 ≤ a2 - a5) : a0 - a1 ≤ a2 - a3 := by omega
theorem oz_ecb2ca289a {a0 a1 a3 : Int} {n2 : Nat} (h0 : a0 - a3 < ((n2 + 1 : Nat) : Int)) (h1 : a3 + 1 ≤ a1) : a0 - a1 < (n2 : Int) := by omega
theorem oz_3cbdbee99c {a0 a1 a2 : Int} (h0 : a0 ≤ a1 + 10) (h1 : a1 < a2) (h2 : a2 ≤ 2049) : a0 < 2100 := by omega
theorem oz_4f9bce6245 {n0 : Nat}  : 8 + (3 + 11) + 0 ≤ (220 * n0 + 1240) := by omega
theorem oz_2ea51e583f {n0 : Nat}  : 8 + (2 + 11) + 240 ≤ (220 * n0 + 1240) := by omega
theorem oz_c94e31fc97 {a0 a1 a2 a3 : Int} (h0 : a0 = a2) (h1 : a1 = a3) (h2 : a3 = a2 + 1) : a0 < a1 := by omega
theorem oz_3b92106684 {a0 a1 a2 a3 a4 a5 : Int} (h0 : a4 = a1 + 1) (h1 : a5 = a3) (h2 : a2 = a5 + 1) (h3 : a0 = a4) : a0 - a1 ≤ a2 - a3 := by omega
theorem oz_7b131bab08 {a0 a1 a2 : Int} (h0 : a0 = a1) (h1 : a1 = a2 + 1) (h2 : 0 ≤ a2) : (-1 : Int) < a0 := by omega
theorem m12_98 : Cond.methodLink "HomeSystemModel$Program" 463 ⟨"HomeSystemModel$Program", "statement", "()I"⟩ ∈ AL := AL_12 (List.mem_of_getElem? (i := 98) rfl) rfl
theorem m12_101 : Cond.code ⟨"HomeSystemModel$Program", "statement", "()I"⟩ prog_16_method_51_code 2 (Option.some FieldType.int) ∈ AL := AL_12 (List.mem_of_getElem? (i := 101) rfl) rfl
theorem ms_10_10 : Cond.selects "HomeSystemModel$Program" ⟨"HomeSystemModel$Program", "statement", "()I"⟩ ⟨"HomeSystemModel$Program", "statement", "()I"⟩ ∈ AL := AL_p (q := (⟨"HomeSystemModel$Program", "statement", "()I"⟩, 69)) (by unfold lw_privs; exact List.mem_append_right _ (List.mem_append_right _ (List.mem_append_right _ (List.mem_append_right _ (List.mem_append_right _ (List.mem_append_right _ (List.mem_append_right _ (List.mem_append_right _ (List.mem_append_right _ (List.mem_append_left _ (List.mem_of_getElem? (i := 10) rfl)))))))))))
theorem m12_100 : Cond.instanceMethod ⟨"HomeSystemModel$Program", "statement", "()I"⟩ ∈ AL := AL_12 (List.mem_of_getElem? (i := 100) rfl) rfl
theorem m12_74 : Cond.methodLink "HomeSystemModel$Program" 466 ⟨"HomeSystemModel$Program", "hang", "(III)I"⟩ ∈ AL := AL_12 (List.mem_of_getElem? (i := 74) rfl) rfl
theorem m12_77 : Cond.code ⟨"HomeSystemModel$Program", "hang", "(III)I"⟩ prog_16_method_42_code 4 (Option.some FieldType.int) ∈ AL := AL_12 (List.mem_of_getElem? (i := 77) rfl) rfl
theorem ms_10_4 : Cond.selects "HomeSystemModel$Program" ⟨"HomeSystemModel$Program", "hang", "(III)I"⟩ ⟨"HomeSystemModel$Program", "hang", "(III)I"⟩ ∈ AL := AL_p (q := (⟨"HomeSystemModel$Program", "hang", "(III)I"⟩, 69)) (by unfold lw_privs; exact List.mem_append_right _ (List.mem_append_right _ (List.mem_append_right _ (List.mem_append_right _ (List.mem_append_right _ (List.mem_append_right _ (List.mem_append_right _ (List.mem_append_right _ (List.mem_append_right _ (List.mem_append_left _ (List.mem_of_getElem? (i := 4) rfl)))))))))))
theorem m12_76 : Cond.instanceMethod ⟨"HomeSystemModel$Program", "hang", "(III)I"⟩ ∈ AL := AL_12 (List.mem_of_getElem? (i := 76) rfl) rfl
abbrev b_Mpg_hang : ByteArray := prog_16_method_42_code
def y_Mpg_hang : MethodName := ⟨"HomeSystemModel$Program", "hang", "(III)I"⟩
theorem d_Mpg_hang_0 : decode b_Mpg_hang 0 = .ok (.iload_n 2, 1) := by decide +kernel
theorem d_Mpg_hang_1 : decode b_Mpg_hang 1 = .ok (.ifCond .lt 10, 3) := by decide +kernel
theorem d_Mpg_hang_4 : decode b_Mpg_hang 4 = .ok (.aload_n 0, 1) := by decide +kernel
theorem d_Mpg_hang_5 : decode b_Mpg_hang 5 = .ok (.getfield 228, 3) := by decide +kernel
theorem d_Mpg_hang_8 : decode b_Mpg_hang 8 = .ok (.iload_n 2, 1) := by decide +kernel
theorem d_Mpg_hang_9 : decode b_Mpg_hang 9 = .ok (.iload_n 3, 1) := by decide +kernel
theorem d_Mpg_hang_10 : decode b_Mpg_hang 10 = .ok (.iastore, 1) := by decide +kernel
theorem d_Mpg_hang_11 : decode b_Mpg_hang 11 = .ok (.iload_n 1, 1) := by decide +kernel
theorem d_Mpg_hang_12 : decode b_Mpg_hang 12 = .ok (.ifCond .lt 7, 3) := by decide +kernel
theorem d_Mpg_hang_15 : decode b_Mpg_hang 15 = .ok (.iload_n 1, 1) := by decide +kernel
theorem d_Mpg_hang_16 : decode b_Mpg_hang 16 = .ok (.goto 4, 3) := by decide +kernel
theorem d_Mpg_hang_19 : decode b_Mpg_hang 19 = .ok (.iload_n 3, 1) := by decide +kernel
theorem d_Mpg_hang_20 : decode b_Mpg_hang 20 = .ok (.ireturn, 1) := by decide +kernel
theorem q_Mpg_hang : px_y y_Mpg_hang 3 := by unfold px_y; decide +kernel
set_option maxHeartbeats 4000000 in
set_option maxRecDepth 100000 in
theorem c_mp_hang (l : Launch) (D : va_G) (cs : Nat → ClassId) (h : Nat) (r : Nat → Nat) (g : Nat → Nat → Option Nat) (tf : Nat → Int32) (ta : Nat → Nat → Int32) (pf : Nat → Int32) (ma : Nat → Nat → Int32) (wa : Nat → Nat → Int32) (cf : Nat → Int32) (ca : Nat → Nat → Int32) (ef : Nat → Int32) (ea : Nat → Nat → Int32) (xf : Nat → Int32) (xa : Nat → Nat → Int32) (na : Nat → Nat → Int32) (p0 p1 p2 : Int32)  (g0 : p1.toInt < 2100) (htk : TkI tf ta) : MetI l y_Mpg_hang b_Mpg_hang 4 (.int) D cs 0 0 (0) (0) [.ref h, .int p0, .int p1, .int p2] [wdP cs h r g tf ta pf na ma wa cf ca ef ea xf xa] (fun _ => True) (fun v ps => ∃ (na' : Nat → Nat → Int32), (ps = [wdP cs h r g tf ta pf na' ma wa cf ca ef ea xf xa]) ∧ (Hg na na' p0 p1 p2 v) ∧ (R_mp_hang p0 p1 p2 na na' v)) := by
  refine px_enter (by decide) (Nat.le_of_ble_eq_true rfl) ?_
  intro p e s m below meth c A ls hAe S hr hlk hnm hA hT hX hw hl
  have hl : lv_has ls 4 [(0, .ref h), (1, .int p0), (2, .int p1), (3, .int p2)] := hl
  have lp0 := Int32.le_toInt p0
  have up0 := Int32.toInt_lt p0
  have lp1 := Int32.le_toInt p1
  have up1 := Int32.toInt_lt p1
  have lp2 := Int32.le_toInt p2
  have up2 := Int32.toInt_lt p2
  refine lv_iload_n S.x S.b d_Mpg_hang_0 rfl (lv_at hl 2 rfl) ?_
  refine lv_if_lt (tgt := 11) S.x S.b d_Mpg_hang_1 (by decide) (fun c1 => ?_) (fun c1 => ?_)
  · have nc1 : p1.toInt < (0 : Int) := (i_lt (x := p1) (y := 0)).mp c1
    refine lv_iload_n S.x S.b d_Mpg_hang_11 rfl (lv_at hl 1 rfl) ?_
    refine lv_if_lt (tgt := 19) S.x S.b d_Mpg_hang_12 (by decide) (fun c3 => ?_) (fun c3 => ?_)
    · have nc3 : p0.toInt < (0 : Int) := (i_lt (x := p0) (y := 0)).mp c3
      refine lv_iload_n S.x S.b d_Mpg_hang_19 rfl (lv_at hl 3 rfl) ?_
      exact px_iret (v := p2) S hr rfl hlk hAe hw (Nat.le_of_ble_eq_true rfl) (Nat.le_of_ble_eq_true rfl) (⟨na, rfl, (show Hg na na p0 p1 p2 p2 from ⟨(fun h => absurd h (by omega)), (fun _ => rfl), (fun h => absurd h (by omega)), (fun _ => rfl)⟩), (show R_mp_hang p0 p1 p2 na na p2 from (Or.inl (Or.inl ⟨nc1, Or.inl ⟨nc3, rfl, rfl⟩⟩)))⟩) d_Mpg_hang_20
    · have nc3 : ¬ p0.toInt < (0 : Int) := mt (i_lt (x := p0) (y := 0)).mpr c3
      refine lv_iload_n S.x S.b d_Mpg_hang_15 rfl (lv_at hl 1 rfl) ?_
      refine lv_goto (tgt := 20) S.x S.b d_Mpg_hang_16 (by decide) ?_
      exact px_iret (v := p0) S hr rfl hlk hAe hw (Nat.le_of_ble_eq_true rfl) (Nat.le_of_ble_eq_true rfl) (⟨na, rfl, (show Hg na na p0 p1 p2 p0 from ⟨(fun h => absurd h (by omega)), (fun _ => rfl), (fun _ => rfl), (fun h => absurd h (by omega))⟩), (show R_mp_hang p0 p1 p2 na na p0 from (Or.inl (Or.inl ⟨nc1, Or.inr ⟨nc3, rfl, rfl⟩⟩)))⟩) d_Mpg_hang_20
  · have nc1 : ¬ p1.toInt < (0 : Int) := mt (i_lt (x := p1) (y := 0)).mpr c1
    refine lv_aload_n S.x S.b d_Mpg_hang_4 rfl (lv_at hl 0 rfl) ?_
    refine gP_21 S hT hw 0 rfl m10_7 d_Mpg_hang_5 ?_
    refine lv_iload_n S.x S.b d_Mpg_hang_8 rfl (lv_at hl 2 rfl) ?_
    refine lv_iload_n S.x S.b d_Mpg_hang_9 rfl (lv_at hl 3 rfl) ?_
    refine px_iast S hT hw 0 17 (n := 2100) (f := (na 21)) (x := p1) (y := p2) rfl gp_21 (vp_in_iff.mpr (by constructor <;> omega)) d_Mpg_hang_10 (w' := wdP cs h r g tf ta pf (va_up na 21 (upd (na 21) p1.toNatClampNeg p2)) ma wa cf ca ef ea xf xa) (ps' := [wdP cs h r g tf ta pf (va_up na 21 (upd (na 21) p1.toNatClampNeg p2)) ma wa cf ca ef ea xf xa]) sp_21 rfl (fun H locs hw => ?_)
    refine lv_iload_n S.x S.b d_Mpg_hang_11 rfl (lv_at hl 1 rfl) ?_
    refine lv_if_lt (tgt := 19) S.x S.b d_Mpg_hang_12 (by decide) (fun c5 => ?_) (fun c5 => ?_)
    · have nc5 : p0.toInt < (0 : Int) := (i_lt (x := p0) (y := 0)).mp c5
      refine lv_iload_n S.x S.b d_Mpg_hang_19 rfl (lv_at hl 3 rfl) ?_
      exact px_iret (v := p2) S hr rfl hlk hAe hw (Nat.le_of_ble_eq_true rfl) (Nat.le_of_ble_eq_true rfl) (⟨(va_up na 21 (upd (na 21) p1.toNatClampNeg p2)), rfl, (show Hg na (va_up na 21 (upd (na 21) p1.toNatClampNeg p2)) p0 p1 p2 p2 from ⟨(fun _ => rfl), (fun h => absurd h (by omega)), (fun h => absurd h (by omega)), (fun _ => rfl)⟩), (show R_mp_hang p0 p1 p2 na (va_up na 21 (upd (na 21) p1.toNatClampNeg p2)) p2 from (Or.inl (Or.inr ⟨nc1, Or.inl ⟨nc5, rfl, rfl⟩⟩)))⟩) d_Mpg_hang_20
    · have nc5 : ¬ p0.toInt < (0 : Int) := mt (i_lt (x := p0) (y := 0)).mpr c5
      refine lv_iload_n S.x S.b d_Mpg_hang_15 rfl (lv_at hl 1 rfl) ?_
      refine lv_goto (tgt := 20) S.x S.b d_Mpg_hang_16 (by decide) ?_
      exact px_iret (v := p0) S hr rfl hlk hAe hw (Nat.le_of_ble_eq_true rfl) (Nat.le_of_ble_eq_true rfl) (⟨(va_up na 21 (upd (na 21) p1.toNatClampNeg p2)), rfl, (show Hg na (va_up na 21 (upd (na 21) p1.toNatClampNeg p2)) p0 p1 p2 p0 from ⟨(fun _ => rfl), (fun h => absurd h (by omega)), (fun _ => rfl), (fun h => absurd h (by omega))⟩), (show R_mp_hang p0 p1 p2 na (va_up na 21 (upd (na 21) p1.toNatClampNeg p2)) p0 from (Or.inl (Or.inr ⟨nc1, Or.inr ⟨nc5, rfl, rfl⟩⟩)))⟩) d_Mpg_hang_20
abbrev b_Mpg_statement : ByteArray := prog_16_method_51_code
def y_Mpg_statement : MethodName := ⟨"HomeSystemModel$Program", "statement", "()I"⟩
theorem d_Mpg_statement_0 : decode b_Mpg_statement 0 = .ok (.aload_n 0, 1) := by decide +kernel
theorem d_Mpg_statement_1 : decode b_Mpg_statement 1 = .ok (.ldc 91, 2) := by decide +kernel
theorem d_Mpg_statement_3 : decode b_Mpg_statement 3 = .ok (.invokevirtual 366, 3) := by decide +kernel
theorem d_Mpg_statement_6 : decode b_Mpg_statement 6 = .ok (.ifCond .eq 8, 3) := by decide +kernel
theorem d_Mpg_statement_9 : decode b_Mpg_statement 9 = .ok (.aload_n 0, 1) := by decide +kernel
theorem d_Mpg_statement_10 : decode b_Mpg_statement 10 = .ok (.invokevirtual 470, 3) := by decide +kernel
theorem d_Mpg_statement_13 : decode b_Mpg_statement 13 = .ok (.ireturn, 1) := by decide +kernel
theorem d_Mpg_statement_14 : decode b_Mpg_statement 14 = .ok (.aload_n 0, 1) := by decide +kernel
theorem d_Mpg_statement_15 : decode b_Mpg_statement 15 = .ok (.ldc 101, 2) := by decide +kernel
theorem d_Mpg_statement_17 : decode b_Mpg_statement 17 = .ok (.invokevirtual 366, 3) := by decide +kernel
theorem d_Mpg_statement_20 : decode b_Mpg_statement 20 = .ok (.ifCond .eq 26, 3) := by decide +kernel
theorem d_Mpg_statement_23 : decode b_Mpg_statement 23 = .ok (.aload_n 0, 1) := by decide +kernel
theorem d_Mpg_statement_24 : decode b_Mpg_statement 24 = .ok (.dup, 1) := by decide +kernel
theorem d_Mpg_statement_25 : decode b_Mpg_statement 25 = .ok (.getfield 360, 3) := by decide +kernel
theorem d_Mpg_statement_28 : decode b_Mpg_statement 28 = .ok (.iconst 1, 1) := by decide +kernel
theorem d_Mpg_statement_29 : decode b_Mpg_statement 29 = .ok (.iadd, 1) := by decide +kernel
theorem d_Mpg_statement_30 : decode b_Mpg_statement 30 = .ok (.putfield 360, 3) := by decide +kernel
theorem d_Mpg_statement_33 : decode b_Mpg_statement 33 = .ok (.aload_n 0, 1) := by decide +kernel
theorem d_Mpg_statement_34 : decode b_Mpg_statement 34 = .ok (.bipush 21, 2) := by decide +kernel
theorem d_Mpg_statement_36 : decode b_Mpg_statement 36 = .ok (.aload_n 0, 1) := by decide +kernel
theorem d_Mpg_statement_37 : decode b_Mpg_statement 37 = .ok (.getfield 360, 3) := by decide +kernel
theorem d_Mpg_statement_40 : decode b_Mpg_statement 40 = .ok (.iconst 1, 1) := by decide +kernel
theorem d_Mpg_statement_41 : decode b_Mpg_statement 41 = .ok (.isub, 1) := by decide +kernel
theorem d_Mpg_statement_42 : decode b_Mpg_statement 42 = .ok (.invokevirtual 406, 3) := by decide +kernel
theorem d_Mpg_statement_45 : decode b_Mpg_statement 45 = .ok (.ireturn, 1) := by decide +kernel
theorem d_Mpg_statement_46 : decode b_Mpg_statement 46 = .ok (.aload_n 0, 1) := by decide +kernel
theorem d_Mpg_statement_47 : decode b_Mpg_statement 47 = .ok (.invokevirtual 473, 3) := by decide +kernel
theorem d_Mpg_statement_50 : decode b_Mpg_statement 50 = .ok (.ifCond .eq 8, 3) := by decide +kernel
theorem d_Mpg_statement_53 : decode b_Mpg_statement 53 = .ok (.aload_n 0, 1) := by decide +kernel
theorem d_Mpg_statement_54 : decode b_Mpg_statement 54 = .ok (.invokevirtual 476, 3) := by decide +kernel
theorem d_Mpg_statement_57 : decode b_Mpg_statement 57 = .ok (.ireturn, 1) := by decide +kernel
theorem d_Mpg_statement_58 : decode b_Mpg_statement 58 = .ok (.aload_n 0, 1) := by decide +kernel
theorem d_Mpg_statement_59 : decode b_Mpg_statement 59 = .ok (.getfield 201, 3) := by decide +kernel
theorem d_Mpg_statement_62 : decode b_Mpg_statement 62 = .ok (.aload_n 0, 1) := by decide +kernel
theorem d_Mpg_statement_63 : decode b_Mpg_statement 63 = .ok (.getfield 360, 3) := by decide +kernel
theorem d_Mpg_statement_66 : decode b_Mpg_statement 66 = .ok (.baload, 1) := by decide +kernel
theorem d_Mpg_statement_67 : decode b_Mpg_statement 67 = .ok (.iconst 2, 1) := by decide +kernel
theorem d_Mpg_statement_68 : decode b_Mpg_statement 68 = .ok (.if_icmp .ne 17, 3) := by decide +kernel
theorem d_Mpg_statement_71 : decode b_Mpg_statement 71 = .ok (.aload_n 0, 1) := by decide +kernel
theorem d_Mpg_statement_72 : decode b_Mpg_statement 72 = .ok (.aload_n 0, 1) := by decide +kernel
theorem d_Mpg_statement_73 : decode b_Mpg_statement 73 = .ok (.getfield 204, 3) := by decide +kernel
theorem d_Mpg_statement_76 : decode b_Mpg_statement 76 = .ok (.aload_n 0, 1) := by decide +kernel
theorem d_Mpg_statement_77 : decode b_Mpg_statement 77 = .ok (.getfield 360, 3) := by decide +kernel
theorem d_Mpg_statement_80 : decode b_Mpg_statement 80 = .ok (.iaload, 1) := by decide +kernel
theorem d_Mpg_statement_81 : decode b_Mpg_statement 81 = .ok (.invokevirtual 479, 3) := by decide +kernel
theorem d_Mpg_statement_84 : decode b_Mpg_statement 84 = .ok (.ireturn, 1) := by decide +kernel
theorem d_Mpg_statement_85 : decode b_Mpg_statement 85 = .ok (.aload_n 0, 1) := by decide +kernel
theorem d_Mpg_statement_86 : decode b_Mpg_statement 86 = .ok (.bipush 22, 2) := by decide +kernel
theorem d_Mpg_statement_88 : decode b_Mpg_statement 88 = .ok (.aload_n 0, 1) := by decide +kernel
theorem d_Mpg_statement_89 : decode b_Mpg_statement 89 = .ok (.getfield 360, 3) := by decide +kernel
theorem d_Mpg_statement_92 : decode b_Mpg_statement 92 = .ok (.invokevirtual 406, 3) := by decide +kernel
theorem d_Mpg_statement_95 : decode b_Mpg_statement 95 = .ok (.istore_n 1, 1) := by decide +kernel
theorem d_Mpg_statement_96 : decode b_Mpg_statement 96 = .ok (.aload_n 0, 1) := by decide +kernel
theorem d_Mpg_statement_97 : decode b_Mpg_statement 97 = .ok (.getfield 216, 3) := by decide +kernel
theorem d_Mpg_statement_100 : decode b_Mpg_statement 100 = .ok (.iload_n 1, 1) := by decide +kernel
theorem d_Mpg_statement_101 : decode b_Mpg_statement 101 = .ok (.aload_n 0, 1) := by decide +kernel
theorem d_Mpg_statement_102 : decode b_Mpg_statement 102 = .ok (.invokevirtual 403, 3) := by decide +kernel
theorem d_Mpg_statement_105 : decode b_Mpg_statement 105 = .ok (.iastore, 1) := by decide +kernel
theorem d_Mpg_statement_106 : decode b_Mpg_statement 106 = .ok (.aload_n 0, 1) := by decide +kernel
theorem d_Mpg_statement_107 : decode b_Mpg_statement 107 = .ok (.ldc 101, 2) := by decide +kernel
theorem d_Mpg_statement_109 : decode b_Mpg_statement 109 = .ok (.invokevirtual 386, 3) := by decide +kernel
theorem d_Mpg_statement_112 : decode b_Mpg_statement 112 = .ok (.iload_n 1, 1) := by decide +kernel
theorem d_Mpg_statement_113 : decode b_Mpg_statement 113 = .ok (.ireturn, 1) := by decide +kernel
theorem q_Mpg_statement : px_y y_Mpg_statement 0 := by unfold px_y; decide +kernel
def StmC (l : Launch) (D : va_G) (cs : Nat → ClassId) (lv : Nat) : Prop := ∀ (h : Nat) (r : Nat → Nat) (g : Nat → Nat → Option Nat) (tf : Nat → Int32) (ta : Nat → Nat → Int32) (cf : Nat → Int32) (ca : Nat → Nat → Int32) (ef : Nat → Int32) (ea : Nat → Nat → Int32) (xf : Nat → Int32) (xa : Nat → Nat → Int32) (pf : Nat → Int32) (na : Nat → Nat → Int32) (ma : Nat → Nat → Int32) (wa : Nat → Nat → Int32) (g0 : 0 ≤ (pf 11).toInt) (g1 : (pf 11).toInt < (tf 6).toInt) (g2 : (tf 6).toInt ≤ 2049) (g3 : 0 ≤ (pf 12).toInt) (g4 : (pf 12).toInt ≤ 60) (g5 : 0 ≤ (pf 13).toInt) (g6 : (pf 13).toInt ≤ (pf 11).toInt + 10) (g7 : 0 ≤ (pf 26).toInt) (g8 : (pf 26).toInt ≤ (pf 12).toInt) (g9 : 61 ≤ (pf 12).toInt + (lv : Int)) (g10 : lv ≤ 61) (hlf : l.flags = pinnedFlags ++ [noTraceFlag]) (htk : TkI tf ta) (hfs : FsI (tf 6).toInt (pf 13).toInt na), ThI l y_Mpg_statement b_Mpg_statement 2 (.int) D cs (8 * lv + 28) (220 * lv + 1280) [.ref h] [wdP cs h r g tf ta pf na ma wa cf ca ef ea xf xa] (oX (fun A U H => (oN A U H) ∧ (oP A g U H)) [wdP cs h r g tf ta pf na ma wa cf ca ef ea xf xa]) "java/lang/IllegalArgumentException" (fun v ps => ∃ (pf' : Nat → Int32) (na' : Nat → Nat → Int32) (ma' : Nat → Nat → Int32) (wa' : Nat → Nat → Int32), (ps = [wdP cs h r g tf ta pf' na' ma' wa' cf ca ef ea xf xa]) ∧ ((pf 11).toInt + 1 ≤ (pf' 11).toInt) ∧ ((pf' 11).toInt < (tf 6).toInt) ∧ ((pf 13).toInt + 1 ≤ (pf' 13).toInt) ∧ ((pf' 13).toInt - (pf 13).toInt ≤ (pf' 11).toInt - (pf 11).toInt) ∧ (bp ta (pf 11) + 1 ≤ bp ta (pf' 11)) ∧ ((pf' 12).toInt = (pf 12).toInt) ∧ ((pf' 24).toInt = (pf 24).toInt) ∧ ((pf' 25).toInt = (pf 25).toInt) ∧ ((pf' 26).toInt = (pf 26).toInt) ∧ (FrB (pf 13).toInt na ma na' ma') ∧ (FrW (pf 26).toInt wa wa') ∧ (VlS ta (tf 6).toInt na' ma' v (pf 13).toInt (pf' 13).toInt (3 * (bp ta (pf' 11) - bp ta (pf 11))) (200 - (pf 12).toInt)) ∧ (FsI (tf 6).toInt (pf' 13).toInt na') ∧ (R_mp_statement (RL_mp_statement lv) ta pf na ma wa pf' na' ma' wa' v 0)) (fun ps => ∃ (pf' : Nat → Int32) (na' : Nat → Nat → Int32) (ma' : Nat → Nat → Int32) (wa' : Nat → Nat → Int32), ps = [wdP cs h r g tf ta pf' na' ma' wa' cf ca ef ea xf xa] ∧ 0 ≤ (pf' 11).toInt ∧ (pf' 11).toInt + 1 ≤ (tf 6).toInt ∧ R_mp_statement (RL_mp_statement lv) ta pf na ma wa pf' na' ma' wa' 0 1)
def LvT (l : Launch) (D : va_G) (cs : Nat → ClassId) (lv : Nat) : Prop := 1 ≤ lv → StmC l D cs (lv - 1)
theorem LvT.go {l : Launch} {D : va_G} {cs : Nat → ClassId} {lv : Nat} (h : LvT l D cs lv) (k : 1 ≤ lv) : StmC l D cs (lv - 1) := h k
theorem lvt_0 {l : Launch} {D : va_G} {cs : Nat → ClassId} : LvT l D cs 0 := fun h => absurd h (by decide)
theorem lvt_s {l : Launch} {D : va_G} {cs : Nat → ClassId} {n : Nat} (h : StmC l D cs n) : LvT l D cs (n + 1) := fun _ => h
abbrev b_Mpg_block : ByteArray := prog_16_method_49_code
def y_Mpg_block : MethodName := ⟨"HomeSystemModel$Program", "block", "()I"⟩
theorem d_Mpg_block_0 : decode b_Mpg_block 0 = .ok (.aload_n 0, 1) := by decide +kernel
theorem d_Mpg_block_1 : decode b_Mpg_block 1 = .ok (.bipush 20, 2) := by decide +kernel
theorem d_Mpg_block_3 : decode b_Mpg_block 3 = .ok (.aload_n 0, 1) := by decide +kernel
theorem d_Mpg_block_4 : decode b_Mpg_block 4 = .ok (.getfield 360, 3) := by decide +kernel
theorem d_Mpg_block_7 : decode b_Mpg_block 7 = .ok (.invokevirtual 406, 3) := by decide +kernel
theorem d_Mpg_block_10 : decode b_Mpg_block 10 = .ok (.istore_n 1, 1) := by decide +kernel
theorem d_Mpg_block_11 : decode b_Mpg_block 11 = .ok (.aload_n 0, 1) := by decide +kernel
theorem d_Mpg_block_12 : decode b_Mpg_block 12 = .ok (.ldc 91, 2) := by decide +kernel
theorem d_Mpg_block_14 : decode b_Mpg_block 14 = .ok (.invokevirtual 457, 3) := by decide +kernel
theorem d_Mpg_block_17 : decode b_Mpg_block 17 = .ok (.iconst (-1), 1) := by decide +kernel
theorem d_Mpg_block_18 : decode b_Mpg_block 18 = .ok (.istore_n 2, 1) := by decide +kernel
theorem d_Mpg_block_19 : decode b_Mpg_block 19 = .ok (.aload_n 0, 1) := by decide +kernel
theorem d_Mpg_block_20 : decode b_Mpg_block 20 = .ok (.ldc 93, 2) := by decide +kernel
theorem d_Mpg_block_22 : decode b_Mpg_block 22 = .ok (.invokevirtual 366, 3) := by decide +kernel
theorem d_Mpg_block_25 : decode b_Mpg_block 25 = .ok (.ifCond .ne 31, 3) := by decide +kernel
theorem d_Mpg_block_28 : decode b_Mpg_block 28 = .ok (.aload_n 0, 1) := by decide +kernel
theorem d_Mpg_block_29 : decode b_Mpg_block 29 = .ok (.invokevirtual 463, 3) := by decide +kernel
theorem d_Mpg_block_32 : decode b_Mpg_block 32 = .ok (.istore_n 3, 1) := by decide +kernel
theorem d_Mpg_block_33 : decode b_Mpg_block 33 = .ok (.aload_n 0, 1) := by decide +kernel
theorem d_Mpg_block_34 : decode b_Mpg_block 34 = .ok (.getfield 216, 3) := by decide +kernel
theorem d_Mpg_block_37 : decode b_Mpg_block 37 = .ok (.iload_n 1, 1) := by decide +kernel
theorem d_Mpg_block_38 : decode b_Mpg_block 38 = .ok (.aload_n 0, 1) := by decide +kernel
theorem d_Mpg_block_39 : decode b_Mpg_block 39 = .ok (.aload_n 0, 1) := by decide +kernel
theorem d_Mpg_block_40 : decode b_Mpg_block 40 = .ok (.getfield 216, 3) := by decide +kernel
theorem d_Mpg_block_43 : decode b_Mpg_block 43 = .ok (.iload_n 1, 1) := by decide +kernel
theorem d_Mpg_block_44 : decode b_Mpg_block 44 = .ok (.iaload, 1) := by decide +kernel
theorem d_Mpg_block_45 : decode b_Mpg_block 45 = .ok (.iload_n 2, 1) := by decide +kernel
theorem d_Mpg_block_46 : decode b_Mpg_block 46 = .ok (.iload_n 3, 1) := by decide +kernel
theorem d_Mpg_block_47 : decode b_Mpg_block 47 = .ok (.invokevirtual 466, 3) := by decide +kernel
theorem d_Mpg_block_50 : decode b_Mpg_block 50 = .ok (.iastore, 1) := by decide +kernel
theorem d_Mpg_block_51 : decode b_Mpg_block 51 = .ok (.iload_n 3, 1) := by decide +kernel
theorem d_Mpg_block_52 : decode b_Mpg_block 52 = .ok (.istore_n 2, 1) := by decide +kernel
theorem d_Mpg_block_53 : decode b_Mpg_block 53 = .ok (.goto (-34), 3) := by decide +kernel
theorem d_Mpg_block_56 : decode b_Mpg_block 56 = .ok (.aload_n 0, 1) := by decide +kernel
theorem d_Mpg_block_57 : decode b_Mpg_block 57 = .ok (.ldc 93, 2) := by decide +kernel
theorem d_Mpg_block_59 : decode b_Mpg_block 59 = .ok (.invokevirtual 439, 3) := by decide +kernel
theorem d_Mpg_block_62 : decode b_Mpg_block 62 = .ok (.iload_n 1, 1) := by decide +kernel
theorem d_Mpg_block_63 : decode b_Mpg_block 63 = .ok (.ireturn, 1) := by decide +kernel
theorem q_Mpg_block : px_y y_Mpg_block 0 := by unfold px_y; decide +kernel
set_option maxHeartbeats 4000000 in
set_option maxRecDepth 100000 in
theorem c_mp_block (l : Launch) (D : va_G) (cs : Nat → ClassId) (h : Nat) (r : Nat → Nat) (g : Nat → Nat → Option Nat) (tf : Nat → Int32) (ta : Nat → Nat → Int32) (cf : Nat → Int32) (ca : Nat → Nat → Int32) (ef : Nat → Int32) (ea : Nat → Nat → Int32) (xf : Nat → Int32) (xa : Nat → Nat → Int32) (pf : Nat → Int32) (na : Nat → Nat → Int32) (ma : Nat → Nat → Int32) (wa : Nat → Nat → Int32) (lv : Nat) (g0 : 0 ≤ (pf 11).toInt) (g1 : (pf 11).toInt < (tf 6).toInt) (g2 : (tf 6).toInt ≤ 2049) (g3 : 0 ≤ (pf 12).toInt) (g4 : (pf 12).toInt ≤ 60) (g5 : 0 ≤ (pf 13).toInt) (g6 : (pf 13).toInt ≤ (pf 11).toInt + 10) (g7 : 0 ≤ (pf 26).toInt) (g8 : (pf 26).toInt ≤ (pf 12).toInt) (g9 : 61 ≤ (pf 12).toInt + (lv : Int)) (g10 : lv ≤ 61) (hlf : l.flags = pinnedFlags ++ [noTraceFlag]) (htk : TkI tf ta) (hfs : FsI (tf 6).toInt (pf 13).toInt na) (hLT : LvT l D cs lv) : ThI l y_Mpg_block b_Mpg_block 4 (.int) D cs (8 * lv + 27) (220 * lv + 1240) [.ref h] [wdP cs h r g tf ta pf na ma wa cf ca ef ea xf xa] (oX (fun A U H => (oN A U H) ∧ (oP A g U H)) [wdP cs h r g tf ta pf na ma wa cf ca ef ea xf xa]) "java/lang/IllegalArgumentException" (fun v ps => ∃ (pf' : Nat → Int32) (na' : Nat → Nat → Int32) (ma' : Nat → Nat → Int32) (wa' : Nat → Nat → Int32), (ps = [wdP cs h r g tf ta pf' na' ma' wa' cf ca ef ea xf xa]) ∧ ((pf 11).toInt + 1 ≤ (pf' 11).toInt) ∧ ((pf' 11).toInt < (tf 6).toInt) ∧ ((pf 13).toInt + 1 ≤ (pf' 13).toInt) ∧ ((pf' 13).toInt - (pf 13).toInt ≤ (pf' 11).toInt - (pf 11).toInt) ∧ (bp ta (pf 11) + 1 ≤ bp ta (pf' 11)) ∧ ((pf' 12).toInt = (pf 12).toInt) ∧ ((pf' 24).toInt = (pf 24).toInt) ∧ ((pf' 25).toInt = (pf 25).toInt) ∧ ((pf' 26).toInt = (pf 26).toInt) ∧ (FrB (pf 13).toInt na ma na' ma') ∧ (FrW (pf 26).toInt wa wa') ∧ (VlS ta (tf 6).toInt na' ma' v (pf 13).toInt (pf' 13).toInt (3 * (bp ta (pf' 11) - bp ta (pf 11))) (200 - (pf 12).toInt)) ∧ (bp ta (pf 11) + 2 ≤ bp ta (pf' 11)) ∧ (BkN na' v) ∧ (FsI (tf 6).toInt (pf' 13).toInt na') ∧ (R_mp_block (RL_mp_statement lv) ta pf na ma wa pf' na' ma' wa' v 0)) (fun ps => ∃ (pf' : Nat → Int32) (na' : Nat → Nat → Int32) (ma' : Nat → Nat → Int32) (wa' : Nat → Nat → Int32), ps = [wdP cs h r g tf ta pf' na' ma' wa' cf ca ef ea xf xa] ∧ 0 ≤ (pf' 11).toInt ∧ (pf' 11).toInt + 1 ≤ (tf 6).toInt ∧ R_mp_block (RL_mp_statement lv) ta pf na ma wa pf' na' ma' wa' 0 1) := by
  refine th_enter (by decide) (Nat.le_of_ble_eq_true rfl) ?_
  intro p e s m below meth c A ls hAe S hr hlk hnm hA hT hX hw hl hne hadm
  have hl : lv_has ls 4 [(0, .ref h)] := hl
  have cstm1 : ((-1) : Int32).toInt = (-1) := rfl
  have cst20 : (20 : Int32).toInt = 20 := rfl
  have hX : (fun A U H => (oN A U H) ∧ (oP A g U H)) A s s.heap := by rw [hAe]; exact hX
  obtain ⟨hN, hP⟩ := hX
  have hZ := hP.1
  have hF0 := hP.2.1
  have hfb : FrB (pf 13).toInt na ma na ma := FrB.rf
  have hfw : FrW (pf 26).toInt wa wa := FrW.rf
  have J19 : ∀ (n_19 : Nat) (pf_19 : Nat → Int32) (na_19 : Nat → Nat → Int32) (ma_19 : Nat → Nat → Int32) (wa_19 : Nat → Nat → Int32) (x19_1 x19_2 : Int32) (H : Heap) (locs : List Loc) (ls : Array Slot), ((pf_19 24).toInt = (pf 24).toInt) → ((pf_19 25).toInt = (pf 25).toInt) → ((pf_19 26).toInt = (pf 26).toInt) → ((pf_19 12).toInt = (pf 12).toInt + 1) → ((pf_19 12).toInt ≤ 60) → ((pf 11).toInt + 1 ≤ (pf_19 11).toInt) → ((pf_19 11).toInt < (tf 6).toInt) → (x19_1.toInt = (pf 13).toInt) → (x19_1.toInt < (pf_19 13).toInt) → ((pf_19 13).toInt - (pf 13).toInt ≤ (pf_19 11).toInt - (pf 11).toInt) → (bp ta (pf 11) + 1 ≤ bp ta (pf_19 11)) → (x19_2.toInt = -1 ∨ x19_1.toInt + 1 ≤ x19_2.toInt) → (x19_2.toInt < (pf_19 13).toInt) → (FrB (pf 13).toInt na ma na_19 ma_19) → (FrW (pf 26).toInt wa wa_19) → (NdF (tf 6).toInt na_19 x19_1 20 (pf 11)) → (ZfS ta (tf 6).toInt na_19 ma_19 (na_19 17) x19_1 x19_2 (x19_1.toInt + 1) (pf_19 13).toInt (3 * (bp ta (pf_19 11) - bp ta (pf 11))) (199 - (pf 12).toInt)) → (FsI (tf 6).toInt (pf_19 13).toInt na_19) → (K_mp_block_19 (RL_mp_statement lv) ta pf na ma wa pf_19 na_19 ma_19 wa_19 x19_1 x19_2) → (tf 6).toInt - (pf_19 11).toInt < (n_19 : Int) → pw D A s.heap H locs [wdP cs h r g tf ta pf_19 na_19 ma_19 wa_19 cf ca ef ea xf xa] → lv_has ls 4 [(0, .ref h), (1, .int x19_1), (2, .int x19_2)] → W p l e { frames := (8 * lv + 27), cells := 1, slots := 6, locals := (220 * lv + 1240) } s m [.ref h].toArray below meth c H locs 0 0 (tx_MQ below (thQi D (va_A ([wdP cs h r g tf ta pf na ma wa cf ca ef ea xf xa] : List va_W).flatten s.heap.size) "java/lang/IllegalArgumentException" (fun v ps => ∃ (pf' : Nat → Int32) (na' : Nat → Nat → Int32) (ma' : Nat → Nat → Int32) (wa' : Nat → Nat → Int32), (ps = [wdP cs h r g tf ta pf' na' ma' wa' cf ca ef ea xf xa]) ∧ ((pf 11).toInt + 1 ≤ (pf' 11).toInt) ∧ ((pf' 11).toInt < (tf 6).toInt) ∧ ((pf 13).toInt + 1 ≤ (pf' 13).toInt) ∧ ((pf' 13).toInt - (pf 13).toInt ≤ (pf' 11).toInt - (pf 11).toInt) ∧ (bp ta (pf 11) + 1 ≤ bp ta (pf' 11)) ∧ ((pf' 12).toInt = (pf 12).toInt) ∧ ((pf' 24).toInt = (pf 24).toInt) ∧ ((pf' 25).toInt = (pf 25).toInt) ∧ ((pf' 26).toInt = (pf 26).toInt) ∧ (FrB (pf 13).toInt na ma na' ma') ∧ (FrW (pf 26).toInt wa wa') ∧ (VlS ta (tf 6).toInt na' ma' v (pf 13).toInt (pf' 13).toInt (3 * (bp ta (pf' 11) - bp ta (pf 11))) (200 - (pf 12).toInt)) ∧ (bp ta (pf 11) + 2 ≤ bp ta (pf' 11)) ∧ (BkN na' v) ∧ (FsI (tf 6).toInt (pf' 13).toInt na') ∧ (R_mp_block (RL_mp_statement lv) ta pf na ma wa pf' na' ma' wa' v 0)) (fun ps => ∃ (pf' : Nat → Int32) (na' : Nat → Nat → Int32) (ma' : Nat → Nat → Int32) (wa' : Nat → Nat → Int32), ps = [wdP cs h r g tf ta pf' na' ma' wa' cf ca ef ea xf xa] ∧ 0 ≤ (pf' 11).toInt ∧ (pf' 11).toInt + 1 ≤ (tf 6).toInt ∧ R_mp_block (RL_mp_statement lv) ta pf na ma wa pf' na' ma' wa' 0 1) s.heap.size (tot s.heap)) [.ref h].toArray s 1 6 A) (F0 m 19 ls []) := by
    intro  n_19
    induction n_19 with
    | zero =>
      intro pf_19 na_19 ma_19 wa_19 x19_1 x19_2 H locs ls k19_0 k19_1 k19_2 k19_3 k19_4 k19_5 k19_6 k19_7 k19_8 k19_9 k19_10 k19_11 k19_12 k19_13 k19_14 k19_15 k19_16 k19_17 k19_18 hm hw hl
      have lx19_1 := Int32.le_toInt x19_1
      have ux19_1 := Int32.toInt_lt x19_1
      have lx19_2 := Int32.le_toInt x19_2
      have ux19_2 := Int32.toInt_lt x19_2
      have hfb := k19_13
      have hfw := k19_14
      have hf_14_x19_1 := k19_15.2.1
      have hf_15_x19_1 := k19_15.2.2.1
      have hf_21_x19_1 := k19_15.2.2.2.2
      have hnt_x19_1 := k19_15.2.2.2.1
      obtain ⟨b1, hf_17_x19_1, hrw_x19_2⟩ := k19_16
      have rq_b1 := hf_17_x19_1
      have hfs := k19_17
      exact absurd hm (by omega)
    | succ n_19 ih19 =>
      intro pf_19 na_19 ma_19 wa_19 x19_1 x19_2 H locs ls k19_0 k19_1 k19_2 k19_3 k19_4 k19_5 k19_6 k19_7 k19_8 k19_9 k19_10 k19_11 k19_12 k19_13 k19_14 k19_15 k19_16 k19_17 k19_18 hm hw hl
      have lx19_1 := Int32.le_toInt x19_1
      have ux19_1 := Int32.toInt_lt x19_1
      have lx19_2 := Int32.le_toInt x19_2
      have ux19_2 := Int32.toInt_lt x19_2
      have hfb := k19_13
      have hfw := k19_14
      have hf_14_x19_1 := k19_15.2.1
      have hf_15_x19_1 := k19_15.2.2.1
      have hf_21_x19_1 := k19_15.2.2.2.2
      have hnt_x19_1 := k19_15.2.2.2.1
      obtain ⟨b2, hf_17_x19_1, hrw_x19_2⟩ := k19_16
      have rq_b2 := hf_17_x19_1
      have hfs := k19_17
      refine lv_aload_n S.x S.b d_Mpg_block_19 rfl (lv_at hl 0 rfl) ?_
      obtain ⟨sk3, hRsk3, st4, hSsk3⟩ := oP_litB hP (k := 93) (tx := "}") (n := 1) (List.mem_of_getElem? (i := 38) rfl)
      refine va_ldcS S.x S.b S.own hRsk3 d_Mpg_block_20 ?_
      first | refine px_calli (pr := []) (px_runV (As := [.ref sk3]) (rest := []) S (c_mp_is l D cs sk3 1 (lby "}") h r g tf ta pf_19 na_19 ma_19 wa_19 cf ca ef ea xf xa   (show 0 ≤ (pf_19 11).toInt from (oz_06d7f15a5c k19_5 g0)) (show (pf_19 11).toInt < (tf 6).toInt from k19_6) (show (tf 6).toInt ≤ 2049 from g2) (show 1 ≤ 100 from by omega) htk _) hT (pr := []) (pcs := [wdP cs h r g tf ta pf_19 na_19 ma_19 wa_19 cf ca ef ea xf xa]) hw (oX_call (P := (fun A U H => (oP A g U H) ∧ (StLt A sk3 1 (lby "}") U H))) (pr := []) (oG_and oG_P oG_QB) hw hA ⟨hP, ⟨_, hSsk3⟩⟩) (px_recv hT hw 0 0 rfl rfl rfl) m11_217 m11_214 m11_216 ms_8_14 m1_21 q_Mpg_is ⟨show 3 + 1 ≤ (8 * lv + 27) from (oz_d732c71c5b), show 8 + (2 + 11) + 120 ≤ (220 * lv + 1240) from (oz_51cf0592dc)⟩ hl.1 rfl (Nat.le_of_ble_eq_true rfl) d_Mpg_block_22 ⟨Nat.le_of_ble_eq_true rfl, Nat.le_of_ble_eq_true rfl⟩) hw hA (fun v7 p6 H locs hp6 hw => ?_) | (refine px_calli (pr := []) (px_runV (As := [.ref sk3]) (rest := []) S (c_mp_is l D cs sk3 1 (lby "}") h r g tf ta pf_19 na_19 ma_19 wa_19 cf ca ef ea xf xa   (show 0 ≤ (pf_19 11).toInt from by first | exact oz_06d7f15a5c k19_5 g0 | omega) (show (pf_19 11).toInt < (tf 6).toInt from by first | exact k19_6 | omega) (show (tf 6).toInt ≤ 2049 from by first | exact g2 | omega) (show 1 ≤ 100 from by omega) htk _) hT (pr := []) (pcs := [wdP cs h r g tf ta pf_19 na_19 ma_19 wa_19 cf ca ef ea xf xa]) hw (oX_call (P := (fun A U H => (oP A g U H) ∧ (StLt A sk3 1 (lby "}") U H))) (pr := []) (oG_and oG_P oG_QB) hw hA ⟨hP, ⟨_, hSsk3⟩⟩) (px_recv hT hw 0 0 rfl rfl rfl) m11_217 m11_214 m11_216 ms_8_14 m1_21 q_Mpg_is ⟨show 3 + 1 ≤ (8 * lv + 27) from (by first | exact oz_d732c71c5b | omega), show 8 + (2 + 11) + 120 ≤ (220 * lv + 1240) from (by first | exact oz_51cf0592dc | omega)⟩ hl.1 rfl (Nat.le_of_ble_eq_true rfl) d_Mpg_block_22 ⟨Nat.le_of_ble_eq_true rfl, Nat.le_of_ble_eq_true rfl⟩) hw hA (fun v7 p6 H locs hp6 hw => ?_))
      obtain ⟨rfl, e8, e9, e10⟩ := hp6
      have e8 := z_rng e8
      have e9 : v7.toInt = 1 → (pf_19 11).toInt + 1 < (tf 6).toInt ∧ so ta (pf_19 11) = 5 := e9
      have e10 : R_mp_is 1 (lby "}") ta pf_19 v7 := e10
      have lv7 := Int32.le_toInt v7
      have uv7 := Int32.toInt_lt v7
      refine lv_if_ne (tgt := 56) S.x S.b d_Mpg_block_25 (by decide) (fun c11 => ?_) (fun c11 => ?_)
      · have nc11 : ¬ v7.toInt = (0 : Int) := mt (i_eq (x := v7) (y := 0)).mpr c11
        refine lv_aload_n S.x S.b d_Mpg_block_56 rfl (lv_at hl 0 rfl) ?_
        obtain ⟨sk13, hRsk13, st14, hSsk13⟩ := oP_litB hP (k := 93) (tx := "}") (n := 1) (List.mem_of_getElem? (i := 38) rfl)
        refine va_ldcS S.x S.b S.own hRsk13 d_Mpg_block_57 ?_
        first | refine th_callv (ps0 := [wdP cs h r g tf ta pf na ma wa cf ca ef ea xf xa]) (pr := []) (pcs := [wdP cs h r g tf ta pf_19 na_19 ma_19 wa_19 cf ca ef ea xf xa]) (As := [.ref sk13]) (rest := []) (c_mp_closes l D cs sk13 1 (lby "}") h r g tf ta na_19 ma_19 wa_19 cf ca ef ea xf xa pf_19   (show 0 ≤ (pf_19 11).toInt from (oz_06d7f15a5c k19_5 g0)) (show (pf_19 11).toInt < (tf 6).toInt from k19_6) (show (tf 6).toInt ≤ 2049 from g2) (show 1 ≤ (pf_19 12).toInt from (oz_e5e326f075 k19_3 g3)) (show (pf_19 12).toInt ≤ 60 from k19_4) (show 1 ≤ 100 from by omega) hlf htk) S hT hw (oX_call (P := (fun A U H => (oN A U H) ∧ (oP A g U H) ∧ (StLt A sk13 1 (lby "}") U H))) (pr := []) (oG_and oG_N (oG_and oG_P oG_QB)) hw hA ⟨hN, hP, ⟨_, hSsk13⟩⟩) (px_recv hT hw 0 0 rfl rfl rfl) m12_53 m12_50 m12_52 ms_9_14 m1_21 q_Mpg_closes ⟨show 8 + 1 ≤ (8 * lv + 27) from (oz_13b6bbef4e), show 8 + (2 + 11) + 280 ≤ (220 * lv + 1240) from (oz_af886dd490)⟩ hl.1 rfl (Nat.le_of_ble_eq_true rfl) d_Mpg_block_59 ⟨Nat.le_of_ble_eq_true rfl, Nat.le_of_ble_eq_true rfl⟩ hne hlk hA hAe (fun o t h => Or.inr h) ?_ (fun p18 H locs hp18 hw => ?_) | (refine th_callv (ps0 := [wdP cs h r g tf ta pf na ma wa cf ca ef ea xf xa]) (pr := []) (pcs := [wdP cs h r g tf ta pf_19 na_19 ma_19 wa_19 cf ca ef ea xf xa]) (As := [.ref sk13]) (rest := []) (c_mp_closes l D cs sk13 1 (lby "}") h r g tf ta na_19 ma_19 wa_19 cf ca ef ea xf xa pf_19   (show 0 ≤ (pf_19 11).toInt from by first | exact oz_06d7f15a5c k19_5 g0 | omega) (show (pf_19 11).toInt < (tf 6).toInt from by first | exact k19_6 | omega) (show (tf 6).toInt ≤ 2049 from by first | exact g2 | omega) (show 1 ≤ (pf_19 12).toInt from by first | exact oz_e5e326f075 k19_3 g3 | omega) (show (pf_19 12).toInt ≤ 60 from by first | exact k19_4 | omega) (show 1 ≤ 100 from by omega) hlf htk) S hT hw (oX_call (P := (fun A U H => (oN A U H) ∧ (oP A g U H) ∧ (StLt A sk13 1 (lby "}") U H))) (pr := []) (oG_and oG_N (oG_and oG_P oG_QB)) hw hA ⟨hN, hP, ⟨_, hSsk13⟩⟩) (px_recv hT hw 0 0 rfl rfl rfl) m12_53 m12_50 m12_52 ms_9_14 m1_21 q_Mpg_closes ⟨show 8 + 1 ≤ (8 * lv + 27) from (by first | exact oz_13b6bbef4e | omega), show 8 + (2 + 11) + 280 ≤ (220 * lv + 1240) from (by first | exact oz_af886dd490 | omega)⟩ hl.1 rfl (Nat.le_of_ble_eq_true rfl) d_Mpg_block_59 ⟨Nat.le_of_ble_eq_true rfl, Nat.le_of_ble_eq_true rfl⟩ hne hlk hA hAe (fun o t h => Or.inr h) ?_ (fun p18 H locs hp18 hw => ?_))
        · exact fun p1 H1 locs1 hp hw => by obtain ⟨pq1, pq2, pq3, pq4, rfl, hq1, hq2, hu_na, hu_ma, hu_wa, hq3⟩ := hp; exact ⟨_, ⟨pq1, pq2, pq3, pq4, rfl, hq1, hq2, (k19_18 _ _ _ _ _ _ 1 (Or.inr (Or.inl ⟨rfl, x19_1, x19_2, rfl, rfl, rfl, rfl, rfl, b2, rq_b2, v7, e10, Or.inl ⟨nc11, Or.inl ⟨pq1, hq3, rfl, hu_na, hu_ma, hu_wa, rfl, rfl⟩⟩⟩)))⟩, hw⟩
        obtain ⟨pf17, rfl, e20, e21, e22, e23, e24, e25, e26, e27, e28⟩ := hp18
        have e20 : (pf17 11).toInt = (pf_19 11).toInt + 1 := e20
        have e21 : (pf17 11).toInt < (tf 6).toInt := e21
        have e22 : bp ta (pf_19 11) + 1 ≤ bp ta (pf17 11) := e22
        have e23 : (pf17 12).toInt = (pf_19 12).toInt - 1 := e23
        have e24 : (pf17 13).toInt = (pf_19 13).toInt := e24
        have e25 : (pf17 24).toInt = (pf_19 24).toInt := e25
        have e26 : (pf17 25).toInt = (pf_19 25).toInt := e26
        have e27 : (pf17 26).toInt = (pf_19 26).toInt := e27
        have e28 : R_mp_closes 1 (lby "}") ta pf_19 pf17 0 := e28
        refine lv_iload_n S.x S.b d_Mpg_block_62 rfl (lv_at hl 1 rfl) ?_
        first | exact th_iret (v := x19_1) S hr rfl hlk hAe hw (⟨pf17, na_19, ma_19, wa_19, rfl, (show (pf 11).toInt + 1 ≤ (pf17 11).toInt from (oz_65cc19c39a k19_5 e20)), (show (pf17 11).toInt < (tf 6).toInt from e21), (show (pf 13).toInt + 1 ≤ (pf17 13).toInt from (oz_5e3266e4e3 k19_7 e24 k19_8)), (show (pf17 13).toInt - (pf 13).toInt ≤ (pf17 11).toInt - (pf 11).toInt from (oz_050fdfc2ab k19_9 e20 e24)), (show bp ta (pf 11) + 1 ≤ bp ta (pf17 11) from (oz_132e547139 k19_10 e22)), (show (pf17 12).toInt = (pf 12).toInt from (oz_7671382d8f k19_3 e23)), (show (pf17 24).toInt = (pf 24).toInt from (oz_1687f4cc65 k19_0 e25)), (show (pf17 25).toInt = (pf 25).toInt from (oz_1687f4cc65 k19_1 e26)), (show (pf17 26).toInt = (pf 26).toInt from (oz_1687f4cc65 k19_2 e27)), (show FrB (pf 13).toInt na ma na_19 ma_19 from hfb), (show FrW (pf 26).toInt wa wa_19 from hfw), (show VlS ta (tf 6).toInt na_19 ma_19 x19_1 (pf 13).toInt (pf17 13).toInt (3 * (bp ta (pf17 11) - bp ta (pf 11))) (200 - (pf 12).toInt) from (VlV.le (st_block (hi := (pf17 13).toInt) (D := (199 - (pf 12).toInt)) (x := x19_2) ⟨by omega, hf_14_x19_1, hf_15_x19_1, ⟨by omega, by omega⟩, hf_21_x19_1⟩ (by omega) (by omega) (by rw [hf_17_x19_1]; exact RzV.le hrw_x19_2 (by omega) (by omega) (Int.le_refl _) (by omega))) (by omega) (by omega) (by omega) (by omega))), (show bp ta (pf 11) + 2 ≤ bp ta (pf17 11) from (oz_1358e0d823 k19_10 e22)), (show BkN na_19 x19_1 from hf_14_x19_1), (show FsI (tf 6).toInt (pf17 13).toInt na_19 from (FsI.le hfs (by omega))), (show R_mp_block (RL_mp_statement lv) ta pf na ma wa pf17 na_19 ma_19 wa_19 x19_1 0 from (k19_18 _ _ _ _ _ _ 1 (Or.inr (Or.inl ⟨rfl, x19_1, x19_2, rfl, rfl, rfl, rfl, rfl, b2, rq_b2, v7, e10, Or.inl ⟨nc11, Or.inr ⟨pf17, e28, rfl, rfl, rfl, rfl, rfl, rfl⟩⟩⟩))))⟩) d_Mpg_block_63 | (exact th_iret (v := x19_1) S hr rfl hlk hAe hw (⟨pf17, na_19, ma_19, wa_19, rfl, (show (pf 11).toInt + 1 ≤ (pf17 11).toInt from by first | exact oz_65cc19c39a k19_5 e20 | omega), (show (pf17 11).toInt < (tf 6).toInt from by first | exact e21 | omega), (show (pf 13).toInt + 1 ≤ (pf17 13).toInt from by first | exact oz_5e3266e4e3 k19_7 e24 k19_8 | omega), (show (pf17 13).toInt - (pf 13).toInt ≤ (pf17 11).toInt - (pf 11).toInt from by first | exact oz_050fdfc2ab k19_9 e20 e24 | omega), (show bp ta (pf 11) + 1 ≤ bp ta (pf17 11) from by first | exact oz_132e547139 k19_10 e22 | omega), (show (pf17 12).toInt = (pf 12).toInt from by first | exact oz_7671382d8f k19_3 e23 | omega), (show (pf17 24).toInt = (pf 24).toInt from by first | exact oz_1687f4cc65 k19_0 e25 | omega), (show (pf17 25).toInt = (pf 25).toInt from by first | exact oz_1687f4cc65 k19_1 e26 | omega), (show (pf17 26).toInt = (pf 26).toInt from by first | exact oz_1687f4cc65 k19_2 e27 | omega), (show FrB (pf 13).toInt na ma na_19 ma_19 from hfb), (show FrW (pf 26).toInt wa wa_19 from hfw), (show VlS ta (tf 6).toInt na_19 ma_19 x19_1 (pf 13).toInt (pf17 13).toInt (3 * (bp ta (pf17 11) - bp ta (pf 11))) (200 - (pf 12).toInt) from (VlV.le (st_block (hi := (pf17 13).toInt) (D := (199 - (pf 12).toInt)) (x := x19_2) ⟨by omega, hf_14_x19_1, hf_15_x19_1, ⟨by omega, by omega⟩, hf_21_x19_1⟩ (by omega) (by omega) (by rw [hf_17_x19_1]; exact RzV.le hrw_x19_2 (by omega) (by omega) (Int.le_refl _) (by omega))) (by omega) (by omega) (by omega) (by omega))), (show bp ta (pf 11) + 2 ≤ bp ta (pf17 11) from by first | exact oz_1358e0d823 k19_10 e22 | omega), (show BkN na_19 x19_1 from hf_14_x19_1), (show FsI (tf 6).toInt (pf17 13).toInt na_19 from (FsI.le hfs (by omega))), (show R_mp_block (RL_mp_statement lv) ta pf na ma wa pf17 na_19 ma_19 wa_19 x19_1 0 from (k19_18 _ _ _ _ _ _ 1 (Or.inr (Or.inl ⟨rfl, x19_1, x19_2, rfl, rfl, rfl, rfl, rfl, b2, rq_b2, v7, e10, Or.inl ⟨nc11, Or.inr ⟨pf17, e28, rfl, rfl, rfl, rfl, rfl, rfl⟩⟩⟩))))⟩) d_Mpg_block_63)
      · have nc11 : v7.toInt = (0 : Int) := (i_eq (x := v7) (y := 0)).mp c11
        refine lv_aload_n S.x S.b d_Mpg_block_28 rfl (lv_at hl 0 rfl) ?_
        first | refine th_calli (ps0 := [wdP cs h r g tf ta pf na ma wa cf ca ef ea xf xa]) (pr := []) (pcs := [wdP cs h r g tf ta pf_19 na_19 ma_19 wa_19 cf ca ef ea xf xa]) (As := []) (rest := []) ((hLT.go (by omega)) h r g tf ta cf ca ef ea xf xa pf_19 na_19 ma_19 wa_19   (show 0 ≤ (pf_19 11).toInt from (oz_06d7f15a5c k19_5 g0)) (show (pf_19 11).toInt < (tf 6).toInt from k19_6) (show (tf 6).toInt ≤ 2049 from g2) (show 0 ≤ (pf_19 12).toInt from (oz_ae613611c0 k19_3 g3)) (show (pf_19 12).toInt ≤ 60 from k19_4) (show 0 ≤ (pf_19 13).toInt from (oz_36c2aaaab5 k19_8 g5 k19_7)) (show (pf_19 13).toInt ≤ (pf_19 11).toInt + 10 from (oz_80aa4b08cf k19_9 g6)) (show 0 ≤ (pf_19 26).toInt from (oz_f3ebed1ad0 k19_2 g7)) (show (pf_19 26).toInt ≤ (pf_19 12).toInt from (oz_173d5d0a35 k19_2 k19_3 g8)) (show 61 ≤ (pf_19 12).toInt + ((lv - 1 : Nat) : Int) from by omega) (show lv - 1 ≤ 61 from by omega) hlf htk (FsI.le (N' := (pf_19 13).toInt) hfs (by omega))) S hT hw (oX_call (P := (fun A U H => (oN A U H) ∧ (oP A g U H))) (pr := []) (oG_and oG_N oG_P) hw hA ⟨hN, hP⟩) (px_recv hT hw 0 0 rfl rfl rfl) m12_101 m12_98 m12_100 ms_10_10 m1_21 q_Mpg_statement ⟨show (8 * (lv - 1) + 28) + 1 ≤ (8 * lv + 27) from by omega, show 8 + (2 + 11) + (220 * (lv - 1) + 1280) ≤ (220 * lv + 1240) from by omega⟩ hl.1 rfl (Nat.le_of_ble_eq_true rfl) d_Mpg_block_29 ⟨Nat.le_of_ble_eq_true rfl, Nat.le_of_ble_eq_true rfl⟩ hne hlk hA hAe (fun o t h => Or.inr h) ?_ (fun v38 p37 H locs hp37 hw => ?_) | (refine th_calli (ps0 := [wdP cs h r g tf ta pf na ma wa cf ca ef ea xf xa]) (pr := []) (pcs := [wdP cs h r g tf ta pf_19 na_19 ma_19 wa_19 cf ca ef ea xf xa]) (As := []) (rest := []) ((hLT.go (by omega)) h r g tf ta cf ca ef ea xf xa pf_19 na_19 ma_19 wa_19   (show 0 ≤ (pf_19 11).toInt from by first | exact oz_06d7f15a5c k19_5 g0 | omega) (show (pf_19 11).toInt < (tf 6).toInt from by first | exact k19_6 | omega) (show (tf 6).toInt ≤ 2049 from by first | exact g2 | omega) (show 0 ≤ (pf_19 12).toInt from by first | exact oz_ae613611c0 k19_3 g3 | omega) (show (pf_19 12).toInt ≤ 60 from by first | exact k19_4 | omega) (show 0 ≤ (pf_19 13).toInt from by first | exact oz_36c2aaaab5 k19_8 g5 k19_7 | omega) (show (pf_19 13).toInt ≤ (pf_19 11).toInt + 10 from by first | exact oz_80aa4b08cf k19_9 g6 | omega) (show 0 ≤ (pf_19 26).toInt from by first | exact oz_f3ebed1ad0 k19_2 g7 | omega) (show (pf_19 26).toInt ≤ (pf_19 12).toInt from by first | exact oz_173d5d0a35 k19_2 k19_3 g8 | omega) (show 61 ≤ (pf_19 12).toInt + ((lv - 1 : Nat) : Int) from by omega) (show lv - 1 ≤ 61 from by omega) hlf htk (FsI.le (N' := (pf_19 13).toInt) hfs (by omega))) S hT hw (oX_call (P := (fun A U H => (oN A U H) ∧ (oP A g U H))) (pr := []) (oG_and oG_N oG_P) hw hA ⟨hN, hP⟩) (px_recv hT hw 0 0 rfl rfl rfl) m12_101 m12_98 m12_100 ms_10_10 m1_21 q_Mpg_statement ⟨show (8 * (lv - 1) + 28) + 1 ≤ (8 * lv + 27) from by omega, show 8 + (2 + 11) + (220 * (lv - 1) + 1280) ≤ (220 * lv + 1240) from by omega⟩ hl.1 rfl (Nat.le_of_ble_eq_true rfl) d_Mpg_block_29 ⟨Nat.le_of_ble_eq_true rfl, Nat.le_of_ble_eq_true rfl⟩ hne hlk hA hAe (fun o t h => Or.inr h) ?_ (fun v38 p37 H locs hp37 hw => ?_))
        · exact fun p1 H1 locs1 hp hw => by obtain ⟨pq1, pq2, pq3, pq4, rfl, hq1, hq2, hq3⟩ := hp; (first | exact ⟨_, ⟨pq1, pq2, pq3, pq4, rfl, hq1, hq2, (k19_18 _ _ _ _ _ _ 1 (Or.inr (Or.inl ⟨rfl, x19_1, x19_2, rfl, rfl, rfl, rfl, rfl, b2, rq_b2, v7, e10, Or.inr ⟨nc11, Or.inl ⟨pq1, pq2, pq3, pq4, (up_RL_mp_statement (show 1 ≤ lv from (oz_6721671b0f g9 g4)) ▸ hq3), rfl, rfl, rfl, rfl, rfl, rfl⟩⟩⟩)))⟩, hw⟩ | (exact ⟨_, ⟨pq1, pq2, pq3, pq4, rfl, hq1, hq2, (k19_18 _ _ _ _ _ _ 1 (Or.inr (Or.inl ⟨rfl, x19_1, x19_2, rfl, rfl, rfl, rfl, rfl, b2, rq_b2, v7, e10, Or.inr ⟨nc11, Or.inl ⟨pq1, pq2, pq3, pq4, (up_RL_mp_statement (show 1 ≤ lv from by first | exact oz_6721671b0f g9 g4 | omega) ▸ hq3), rfl, rfl, rfl, rfl, rfl, rfl⟩⟩⟩)))⟩, hw⟩))
        obtain ⟨pf33, na34, ma35, wa36, rfl, e39, e40, e41, e42, e43, e44, e45, e46, e47, e48, e49, e50, e51, e52⟩ := hp37
        have e39 : (pf_19 11).toInt + 1 ≤ (pf33 11).toInt := e39
        have e40 : (pf33 11).toInt < (tf 6).toInt := e40
        have e41 : (pf_19 13).toInt + 1 ≤ (pf33 13).toInt := e41
        have e42 : (pf33 13).toInt - (pf_19 13).toInt ≤ (pf33 11).toInt - (pf_19 11).toInt := e42
        have e43 : bp ta (pf_19 11) + 1 ≤ bp ta (pf33 11) := e43
        have e44 : (pf33 12).toInt = (pf_19 12).toInt := e44
        have e45 : (pf33 24).toInt = (pf_19 24).toInt := e45
        have e46 : (pf33 25).toInt = (pf_19 25).toInt := e46
        have e47 : (pf33 26).toInt = (pf_19 26).toInt := e47
        have e48 : FrB (pf_19 13).toInt na_19 ma_19 na34 ma35 := e48
        have hf_14_x19_1 := (fb_n e48 (by omega) (by omega)).trans hf_14_x19_1
        have hf_15_x19_1 := (fb_n e48 (by omega) (by omega)).trans hf_15_x19_1
        have hf_21_x19_1 := (fb_n e48 (by omega) (by omega)).trans hf_21_x19_1
        have hf_17_x19_1 := (fb_n e48 (by omega) (by omega)).trans hf_17_x19_1
        have hrw_x19_2 := hrw_x19_2.ag fs_ok (FrB.ag e48 (by omega))
        have hfb := hfb.tr e48 (by omega)
        have e49 : FrW (pf_19 26).toInt wa_19 wa36 := e49
        have hfw := hfw.tr e49 (by omega)
        have e50 : VlS ta (tf 6).toInt na34 ma35 v38 (pf_19 13).toInt (pf33 13).toInt (3 * (bp ta (pf33 11) - bp ta (pf_19 11))) (200 - (pf_19 12).toInt) := e50
        have hv_v38 := e50
        have hn_hv_v38 := hv_v38.num fs_ok
        have e51 : FsI (tf 6).toInt (pf33 13).toInt na34 := e51
        have hfs := e51
        have e52 : R_mp_statement (RL_mp_statement (lv - 1)) ta pf_19 na_19 ma_19 wa_19 pf33 na34 ma35 wa36 v38 0 := e52
        first | have e52L : (RL_mp_statement lv) ta pf_19 na_19 ma_19 wa_19 pf33 na34 ma35 wa36 v38 0 := up_RL_mp_statement (show 1 ≤ lv from (oz_6721671b0f g9 g4)) ▸ e52 | (have e52L : (RL_mp_statement lv) ta pf_19 na_19 ma_19 wa_19 pf33 na34 ma35 wa36 v38 0 := up_RL_mp_statement (show 1 ≤ lv from by first | exact oz_6721671b0f g9 g4 | omega) ▸ e52)
        have lv38 := Int32.le_toInt v38
        have uv38 := Int32.toInt_lt v38
        refine lv_istore_n (lv' := [(3, .int v38), (0, .ref h), (1, .int x19_1), (2, .int x19_2)]) S.x S.b d_Mpg_block_32 rfl hl (by decide) rfl (fun ls hl => ?_)
        refine lv_aload_n S.x S.b d_Mpg_block_33 rfl (lv_at hl 1 rfl) ?_
        refine gP_17 S hT hw 0 rfl m10_1 d_Mpg_block_34 ?_
        refine lv_iload_n S.x S.b d_Mpg_block_37 rfl (lv_at hl 2 rfl) ?_
        refine lv_aload_n S.x S.b d_Mpg_block_38 rfl (lv_at hl 1 rfl) ?_
        refine lv_aload_n S.x S.b d_Mpg_block_39 rfl (lv_at hl 1 rfl) ?_
        refine gP_17 S hT hw 0 rfl m10_1 d_Mpg_block_40 ?_
        refine lv_iload_n S.x S.b d_Mpg_block_43 rfl (lv_at hl 2 rfl) ?_
        refine px_iald S hT hw 0 13 (n := 2100) (f := (na34 17)) rfl gp_17 (x := x19_1) (vp_in_iff.mpr (by first | exact oz_9d4072bda4 k19_7 g5 k19_8 g6 k19_9 e39 e40 g2 | (constructor <;> omega))) d_Mpg_block_44 ?_
        refine lv_topi (fun z53 ez53 => ?_)
        have lz53 := Int32.le_toInt z53
        have uz53 := Int32.toInt_lt z53
        have hsz53 : b2 = z53 := (ez53.trans hf_17_x19_1).symm; subst hsz53
        refine lv_iload_n S.x S.b d_Mpg_block_45 rfl (lv_at hl 3 rfl) ?_
        refine lv_iload_n S.x S.b d_Mpg_block_46 rfl (lv_at hl 0 rfl) ?_
        first | refine px_calli (pr := []) (px_runV (As := [.int b2, .int x19_2, .int v38]) (rest := [.int x19_1, .ref (r 17)]) S (c_mp_hang l D cs h r g tf ta pf33 ma35 wa36 cf ca ef ea xf xa na34 b2 x19_2 v38  (show x19_2.toInt < 2100 from (oz_3c5529d13a k19_12 k19_9 g6 e39 e40 g2)) htk _) hT (pr := []) (pcs := [wdP cs h r g tf ta pf33 na34 ma35 wa36 cf ca ef ea xf xa]) hw px_X.tt (px_recv hT hw 0 0 rfl rfl rfl) m12_77 m12_74 m12_76 ms_10_4 m1_21 q_Mpg_hang ⟨show 0 + 1 ≤ (8 * lv + 27) from (oz_4e4cac7810), show 8 + (4 + 11) + 0 ≤ (220 * lv + 1240) from (oz_16935ab76c)⟩ hl.1 rfl (Nat.le_of_ble_eq_true rfl) d_Mpg_block_47 ⟨Nat.le_of_ble_eq_true rfl, Nat.le_of_ble_eq_true rfl⟩) hw hA (fun v57 p56 H locs hp56 hw => ?_) | (refine px_calli (pr := []) (px_runV (As := [.int b2, .int x19_2, .int v38]) (rest := [.int x19_1, .ref (r 17)]) S (c_mp_hang l D cs h r g tf ta pf33 ma35 wa36 cf ca ef ea xf xa na34 b2 x19_2 v38  (show x19_2.toInt < 2100 from by first | exact oz_3c5529d13a k19_12 k19_9 g6 e39 e40 g2 | omega) htk _) hT (pr := []) (pcs := [wdP cs h r g tf ta pf33 na34 ma35 wa36 cf ca ef ea xf xa]) hw px_X.tt (px_recv hT hw 0 0 rfl rfl rfl) m12_77 m12_74 m12_76 ms_10_4 m1_21 q_Mpg_hang ⟨show 0 + 1 ≤ (8 * lv + 27) from (by first | exact oz_4e4cac7810 | omega), show 8 + (4 + 11) + 0 ≤ (220 * lv + 1240) from (by first | exact oz_16935ab76c | omega)⟩ hl.1 rfl (Nat.le_of_ble_eq_true rfl) d_Mpg_block_47 ⟨Nat.le_of_ble_eq_true rfl, Nat.le_of_ble_eq_true rfl⟩) hw hA (fun v57 p56 H locs hp56 hw => ?_))
        obtain ⟨na55, rfl, e58, e59⟩ := hp56
        have e58 : Hg na34 na55 b2 x19_2 v38 v57 := e58
        have hf_14_x19_1 := (Hg.fld e58 (by omega) (by omega)).trans hf_14_x19_1
        have hf_15_x19_1 := (Hg.fld e58 (by omega) (by omega)).trans hf_15_x19_1
        have hf_21_x19_1 := (Hg.fld e58 (by omega) (by omega)).trans hf_21_x19_1
        have hf_17_x19_1 := (Hg.fld e58 (by omega) (by omega)).trans hf_17_x19_1
        have hrw_v38 := Hg.row e58 fs_ok hrw_x19_2 (VlV.le hv_v38 (by omega) (Int.le_refl _) (Int.le_refl _) (by omega)) (by omega) (by omega)
        have hn_hrw_v38 := hrw_v38.num
        have hfb := Hg.fb e58 hfb (by omega)
        have hfs := FsI.hg hfs e58
        have e59 : R_mp_hang b2 x19_2 v38 na34 na55 v57 := e59
        have lv57 := Int32.le_toInt v57
        have uv57 := Int32.toInt_lt v57
        refine px_iast S hT hw 0 13 (n := 2100) (f := (na55 17)) (x := x19_1) (y := v57) rfl gp_17 (vp_in_iff.mpr (by constructor <;> omega)) d_Mpg_block_50 (w' := wdP cs h r g tf ta pf33 (va_up na55 17 (upd (na55 17) x19_1.toNatClampNeg v57)) ma35 wa36 cf ca ef ea xf xa) (ps' := [wdP cs h r g tf ta pf33 (va_up na55 17 (upd (na55 17) x19_1.toNatClampNeg v57)) ma35 wa36 cf ca ef ea xf xa]) sp_17 rfl (fun H locs hw => ?_)
        obtain ⟨na60, hu_na60⟩ : ∃ y : Nat → Nat → Int32, y = va_up na55 17 (upd (na55 17) x19_1.toNatClampNeg v57) := ⟨_, rfl⟩
        have hw : pw D A s.heap _ _ [wdP cs h r g tf ta pf33 na60 ma35 wa36 cf ca ef ea xf xa] := (by rw [hu_na60]; exact hw)
        have hrw_v38 := hrw_v38.ag fs_ok (ag_n hu_na60 (by omega) (by omega))
        have hf_14_x19_1 := (fl_n hu_na60 (by decide)).trans hf_14_x19_1
        have hf_15_x19_1 := (fl_n hu_na60 (by decide)).trans hf_15_x19_1
        have hf_21_x19_1 := (fl_n hu_na60 (by decide)).trans hf_21_x19_1
        have hf_17_x19_1 : na60 17 x19_1.toNatClampNeg = v57 := (by rw [hu_na60, va_up_s, pk_us])
        have hfs : FsI _ _ na60 := (by rw [hu_na60]; exact FsI.un hfs (by decide))
        have hfb : FrB (pf 13).toInt na ma na60 ma35 := (by rw [hu_na60]; exact FrB.un hfb (by omega) (by omega))
        refine lv_iload_n S.x S.b d_Mpg_block_51 rfl (lv_at hl 0 rfl) ?_
        refine lv_istore_n (lv' := [(2, .int v38), (3, .int v38), (0, .ref h), (1, .int x19_1)]) S.x S.b d_Mpg_block_52 rfl hl (by decide) rfl (fun ls hl => ?_)
        refine lv_goto (tgt := 19) S.x S.b d_Mpg_block_53 (by decide) ?_
        first | exact ih19 pf33 na60 ma35 wa36 x19_1 v38 _ _ ls (show (pf33 24).toInt = (pf 24).toInt from (oz_1687f4cc65 k19_0 e45)) (show (pf33 25).toInt = (pf 25).toInt from (oz_1687f4cc65 k19_1 e46)) (show (pf33 26).toInt = (pf 26).toInt from (oz_1687f4cc65 k19_2 e47)) (show (pf33 12).toInt = (pf 12).toInt + 1 from (oz_d71c8747a8 k19_3 e44)) (show (pf33 12).toInt ≤ 60 from (oz_a3db38fa3c e44 k19_4)) (show (pf 11).toInt + 1 ≤ (pf33 11).toInt from (oz_132e547139 k19_5 e39)) (show (pf33 11).toInt < (tf 6).toInt from e40) (show x19_1.toInt = (pf 13).toInt from k19_7) (show x19_1.toInt < (pf33 13).toInt from (oz_3a4745f90a k19_8 e41)) (show (pf33 13).toInt - (pf 13).toInt ≤ (pf33 11).toInt - (pf 11).toInt from (oz_e76dadc267 k19_9 e42)) (show bp ta (pf 11) + 1 ≤ bp ta (pf33 11) from (oz_132e547139 k19_10 e43)) (show v38.toInt = -1 ∨ x19_1.toInt + 1 ≤ v38.toInt from by omega) (show v38.toInt < (pf33 13).toInt from by omega) (show FrB (pf 13).toInt na ma na60 ma35 from hfb) (show FrW (pf 26).toInt wa wa36 from hfw) (show NdF (tf 6).toInt na60 x19_1 20 (pf 11) from ⟨(oz_f3ebed1ad0 k19_7 g5), hf_14_x19_1, hf_15_x19_1, ⟨g0, g1⟩, hf_21_x19_1⟩) (show ZfS ta (tf 6).toInt na60 ma35 (na60 17) x19_1 v38 (x19_1.toInt + 1) (pf33 13).toInt (3 * (bp ta (pf33 11) - bp ta (pf 11))) (199 - (pf 12).toInt) from ⟨_, hf_17_x19_1, Or.inr (RwV.le hrw_v38 (by omega) (by omega) (by omega) (by omega))⟩) (show FsI (tf 6).toInt (pf33 13).toInt na60 from (FsI.le hfs (by omega))) (show K_mp_block_19 (RL_mp_statement lv) ta pf na ma wa pf33 na60 ma35 wa36 x19_1 v38 from (fun y_f0 y_f1 y_f2 y_f3 y_v y_t k hE => k19_18 y_f0 y_f1 y_f2 y_f3 y_v y_t (k + 1) (Or.inr (Or.inl ⟨rfl, x19_1, x19_2, rfl, rfl, rfl, rfl, rfl, b2, rq_b2, v7, e10, Or.inr ⟨nc11, Or.inr ⟨pf33, na34, ma35, wa36, v38, e52L, b2, ez53, na55, v57, e59, na60, hu_na60, hE⟩⟩⟩)))) (show (tf 6).toInt - (pf33 11).toInt < (n_19 : Int) from (oz_ecb2ca289a hm e39)) hw (lv_sub hl [2, 3, 0] rfl) | (exact ih19 pf33 na60 ma35 wa36 x19_1 v38 _ _ ls (show (pf33 24).toInt = (pf 24).toInt from by first | exact oz_1687f4cc65 k19_0 e45 | omega) (show (pf33 25).toInt = (pf 25).toInt from by first | exact oz_1687f4cc65 k19_1 e46 | omega) (show (pf33 26).toInt = (pf 26).toInt from by first | exact oz_1687f4cc65 k19_2 e47 | omega) (show (pf33 12).toInt = (pf 12).toInt + 1 from by first | exact oz_d71c8747a8 k19_3 e44 | omega) (show (pf33 12).toInt ≤ 60 from by first | exact oz_a3db38fa3c e44 k19_4 | omega) (show (pf 11).toInt + 1 ≤ (pf33 11).toInt from by first | exact oz_132e547139 k19_5 e39 | omega) (show (pf33 11).toInt < (tf 6).toInt from by first | exact e40 | omega) (show x19_1.toInt = (pf 13).toInt from by first | exact k19_7 | omega) (show x19_1.toInt < (pf33 13).toInt from by first | exact oz_3a4745f90a k19_8 e41 | omega) (show (pf33 13).toInt - (pf 13).toInt ≤ (pf33 11).toInt - (pf 11).toInt from by first | exact oz_e76dadc267 k19_9 e42 | omega) (show bp ta (pf 11) + 1 ≤ bp ta (pf33 11) from by first | exact oz_132e547139 k19_10 e43 | omega) (show v38.toInt = -1 ∨ x19_1.toInt + 1 ≤ v38.toInt from by omega) (show v38.toInt < (pf33 13).toInt from by omega) (show FrB (pf 13).toInt na ma na60 ma35 from hfb) (show FrW (pf 26).toInt wa wa36 from hfw) (show NdF (tf 6).toInt na60 x19_1 20 (pf 11) from ⟨by first | exact oz_f3ebed1ad0 k19_7 g5 | omega, hf_14_x19_1, hf_15_x19_1, ⟨by first | exact g0 | omega, by first | exact g1 | omega⟩, hf_21_x19_1⟩) (show ZfS ta (tf 6).toInt na60 ma35 (na60 17) x19_1 v38 (x19_1.toInt + 1) (pf33 13).toInt (3 * (bp ta (pf33 11) - bp ta (pf 11))) (199 - (pf 12).toInt) from ⟨_, hf_17_x19_1, Or.inr (RwV.le hrw_v38 (by omega) (by omega) (by omega) (by omega))⟩) (show FsI (tf 6).toInt (pf33 13).toInt na60 from (FsI.le hfs (by omega))) (show K_mp_block_19 (RL_mp_statement lv) ta pf na ma wa pf33 na60 ma35 wa36 x19_1 v38 from (fun y_f0 y_f1 y_f2 y_f3 y_v y_t k hE => k19_18 y_f0 y_f1 y_f2 y_f3 y_v y_t (k + 1) (Or.inr (Or.inl ⟨rfl, x19_1, x19_2, rfl, rfl, rfl, rfl, rfl, b2, rq_b2, v7, e10, Or.inr ⟨nc11, Or.inr ⟨pf33, na34, ma35, wa36, v38, e52L, b2, ez53, na55, v57, e59, na60, hu_na60, hE⟩⟩⟩)))) (show (tf 6).toInt - (pf33 11).toInt < (n_19 : Int) from by first | exact oz_ecb2ca289a hm e39 | omega) hw (lv_sub hl [2, 3, 0] rfl))
  refine lv_aload_n S.x S.b d_Mpg_block_0 rfl (lv_at hl 0 rfl) ?_
  refine lv_bipush (v := 20) S.x S.b d_Mpg_block_1 (by decide) ?_
  refine lv_aload_n S.x S.b d_Mpg_block_3 rfl (lv_at hl 0 rfl) ?_
  refine gP_11 (v := (pf 11)) S hT hw 0 rfl rfl m9_235 d_Mpg_block_4 ?_
  first | refine px_calli (pr := []) (px_runV (As := [.int 20, .int (pf 11)]) (rest := []) S (c_mp_make l D cs h r g tf ta wa cf ca ef ea xf xa pf na ma 20 (pf 11)  (show 0 ≤ (pf 13).toInt from g5) (show (pf 13).toInt < 2100 from (oz_3cbdbee99c g6 g1 g2)) _) hT (pr := []) (pcs := [wdP cs h r g tf ta pf na ma wa cf ca ef ea xf xa]) hw px_X.tt (px_recv hT hw 0 0 rfl rfl rfl) m11_209 m11_206 m11_208 ms_8_12 m1_21 q_Mpg_make ⟨show 0 + 1 ≤ (8 * lv + 27) from (oz_4e4cac7810), show 8 + (3 + 11) + 0 ≤ (220 * lv + 1240) from (oz_4f9bce6245)⟩ hl.1 rfl (Nat.le_of_ble_eq_true rfl) d_Mpg_block_7 ⟨Nat.le_of_ble_eq_true rfl, Nat.le_of_ble_eq_true rfl⟩) hw hA (fun v68 p67 H locs hp67 hw => ?_) | (refine px_calli (pr := []) (px_runV (As := [.int 20, .int (pf 11)]) (rest := []) S (c_mp_make l D cs h r g tf ta wa cf ca ef ea xf xa pf na ma 20 (pf 11)  (show 0 ≤ (pf 13).toInt from by first | exact g5 | omega) (show (pf 13).toInt < 2100 from by first | exact oz_3cbdbee99c g6 g1 g2 | omega) _) hT (pr := []) (pcs := [wdP cs h r g tf ta pf na ma wa cf ca ef ea xf xa]) hw px_X.tt (px_recv hT hw 0 0 rfl rfl rfl) m11_209 m11_206 m11_208 ms_8_12 m1_21 q_Mpg_make ⟨show 0 + 1 ≤ (8 * lv + 27) from (by first | exact oz_4e4cac7810 | omega), show 8 + (3 + 11) + 0 ≤ (220 * lv + 1240) from (by first | exact oz_4f9bce6245 | omega)⟩ hl.1 rfl (Nat.le_of_ble_eq_true rfl) d_Mpg_block_7 ⟨Nat.le_of_ble_eq_true rfl, Nat.le_of_ble_eq_true rfl⟩) hw hA (fun v68 p67 H locs hp67 hw => ?_))
  obtain ⟨pf64, na65, ma66, rfl, e69, e70, e71, e72, e73, e74, e75, e76, e77⟩ := hp67
  have e69 : v68.toInt = (pf 13).toInt := e69
  have e70 : (pf64 13).toInt = (pf 13).toInt + 1 := e70
  have e71 : (pf64 11).toInt = (pf 11).toInt := e71
  have e72 : (pf64 12).toInt = (pf 12).toInt := e72
  have e73 : (pf64 24).toInt = (pf 24).toInt := e73
  have e74 : (pf64 25).toInt = (pf 25).toInt := e74
  have e75 : (pf64 26).toInt = (pf 26).toInt := e75
  have e76 : MkN na ma na65 ma66 v68 (20 : Int32) (pf 11) := e76
  have e77 : R_mp_make (20 : Int32) (pf 11) pf na ma pf64 na65 ma66 v68 := e77
  obtain ⟨qb781, qb782, qb783, qb784⟩ := tk_eq (ta := ta) (x := (pf64 11)) (y := (pf 11)) (by omega)
  have hmk_v68 := e76
  have hfm_v68 := MkN.frb (b := v68.toInt) hmk_v68 (by omega) (by omega)
  have hfs := FsI.mk hfs hmk_v68 (by omega) (by omega) (by omega) (by omega)
  have hfb := hfb.tr hfm_v68 (by omega)
  have hf_14_v68 := hmk_v68.2.1 (by decide) (by decide)
  have hf_15_v68 := hmk_v68.2.2.1
  have hf_17_v68 := hmk_v68.2.2.2.2.1
  have hf_21_v68 := hmk_v68.2.2.2.2.2.2.2.2.1
  clear hmk_v68 hfm_v68
  have lv68 := Int32.le_toInt v68
  have uv68 := Int32.toInt_lt v68
  refine lv_istore_n (lv' := [(1, .int v68), (0, .ref h)]) S.x S.b d_Mpg_block_10 rfl hl (by decide) rfl (fun ls hl => ?_)
  refine lv_aload_n S.x S.b d_Mpg_block_11 rfl (lv_at hl 1 rfl) ?_
  obtain ⟨sk79, hRsk79, st80, hSsk79⟩ := oP_litB hP (k := 91) (tx := "{") (n := 1) (List.mem_of_getElem? (i := 37) rfl)
  refine va_ldcS S.x S.b S.own hRsk79 d_Mpg_block_12 ?_
  first | refine th_callv (ps0 := [wdP cs h r g tf ta pf na ma wa cf ca ef ea xf xa]) (pr := []) (pcs := [wdP cs h r g tf ta pf64 na65 ma66 wa cf ca ef ea xf xa]) (As := [.ref sk79]) (rest := []) (c_mp_opensMark l D cs sk79 1 (lby "{") h r g tf ta na65 ma66 wa cf ca ef ea xf xa pf64   (show 0 ≤ (pf64 11).toInt from (oz_f3ebed1ad0 e71 g0)) (show (pf64 11).toInt < (tf 6).toInt from (oz_5d2fbac15b g1 e71)) (show (tf 6).toInt ≤ 2049 from g2) (show 0 ≤ (pf64 12).toInt from (oz_f3ebed1ad0 e72 g3)) (show (pf64 12).toInt ≤ 60 from (oz_a3db38fa3c e72 g4)) (show 1 ≤ 100 from by omega) hlf htk) S hT hw (oX_call (P := (fun A U H => (oN A U H) ∧ (oP A g U H) ∧ (StLt A sk79 1 (lby "{") U H))) (pr := []) (oG_and oG_N (oG_and oG_P oG_QB)) hw hA ⟨hN, hP, ⟨_, hSsk79⟩⟩) (px_recv hT hw 0 0 rfl rfl rfl) m11_213 m11_210 m11_212 ms_8_13 m1_21 q_Mpg_opensMark ⟨show 8 + 1 ≤ (8 * lv + 27) from (oz_13b6bbef4e), show 8 + (2 + 11) + 240 ≤ (220 * lv + 1240) from (oz_2ea51e583f)⟩ hl.1 rfl (Nat.le_of_ble_eq_true rfl) d_Mpg_block_14 ⟨Nat.le_of_ble_eq_true rfl, Nat.le_of_ble_eq_true rfl⟩ hne hlk hA hAe (fun o t h => Or.inr h) ?_ (fun p84 H locs hp84 hw => ?_) | (refine th_callv (ps0 := [wdP cs h r g tf ta pf na ma wa cf ca ef ea xf xa]) (pr := []) (pcs := [wdP cs h r g tf ta pf64 na65 ma66 wa cf ca ef ea xf xa]) (As := [.ref sk79]) (rest := []) (c_mp_opensMark l D cs sk79 1 (lby "{") h r g tf ta na65 ma66 wa cf ca ef ea xf xa pf64   (show 0 ≤ (pf64 11).toInt from by first | exact oz_f3ebed1ad0 e71 g0 | omega) (show (pf64 11).toInt < (tf 6).toInt from by first | exact oz_5d2fbac15b g1 e71 | omega) (show (tf 6).toInt ≤ 2049 from by first | exact g2 | omega) (show 0 ≤ (pf64 12).toInt from by first | exact oz_f3ebed1ad0 e72 g3 | omega) (show (pf64 12).toInt ≤ 60 from by first | exact oz_a3db38fa3c e72 g4 | omega) (show 1 ≤ 100 from by omega) hlf htk) S hT hw (oX_call (P := (fun A U H => (oN A U H) ∧ (oP A g U H) ∧ (StLt A sk79 1 (lby "{") U H))) (pr := []) (oG_and oG_N (oG_and oG_P oG_QB)) hw hA ⟨hN, hP, ⟨_, hSsk79⟩⟩) (px_recv hT hw 0 0 rfl rfl rfl) m11_213 m11_210 m11_212 ms_8_13 m1_21 q_Mpg_opensMark ⟨show 8 + 1 ≤ (8 * lv + 27) from (by first | exact oz_13b6bbef4e | omega), show 8 + (2 + 11) + 240 ≤ (220 * lv + 1240) from (by first | exact oz_2ea51e583f | omega)⟩ hl.1 rfl (Nat.le_of_ble_eq_true rfl) d_Mpg_block_14 ⟨Nat.le_of_ble_eq_true rfl, Nat.le_of_ble_eq_true rfl⟩ hne hlk hA hAe (fun o t h => Or.inr h) ?_ (fun p84 H locs hp84 hw => ?_))
  · exact fun p1 H1 locs1 hp hw => by obtain ⟨pq1, pq2, pq3, pq4, rfl, hq1, hq2, hu_na, hu_ma, hu_wa, hq3⟩ := hp; exact ⟨_, ⟨pq1, pq2, pq3, pq4, rfl, hq1, hq2, (Exists.intro 1 (Or.inl ⟨rfl, pf64, na65, ma66, v68, e77, Or.inl ⟨pq1, hq3, rfl, hu_na, hu_ma, hu_wa, rfl, rfl⟩⟩))⟩, hw⟩
  obtain ⟨pf83, rfl, e86, e87, e88, e89, e90, e91, e92, e93, e94, e95, e96⟩ := hp84
  have e86 : (pf83 11).toInt = (pf64 11).toInt + 1 := e86
  have e87 : (pf83 11).toInt < (tf 6).toInt := e87
  have e88 : bp ta (pf64 11) + sz ta (pf64 11) ≤ bp ta (pf83 11) := e88
  have e89 : 1 ≤ sz ta (pf64 11) := e89
  have e90 : (pf83 12).toInt = (pf64 12).toInt + 1 := e90
  have e91 : (pf64 12).toInt < 60 := e91
  have e92 : (pf83 13).toInt = (pf64 13).toInt := e92
  have e93 : (pf83 24).toInt = (pf64 24).toInt := e93
  have e94 : (pf83 25).toInt = (pf64 25).toInt := e94
  have e95 : (pf83 26).toInt = (pf64 26).toInt := e95
  have e96 : R_mp_opensMark 1 (lby "{") ta pf64 pf83 0 := e96
  refine lv_iconst (v := (-1)) S.x S.b d_Mpg_block_17 (by decide) ?_
  refine lv_istore_n (lv' := [(2, .int (-1)), (1, .int v68), (0, .ref h)]) S.x S.b d_Mpg_block_18 rfl hl (by decide) rfl (fun ls hl => ?_)
  first | exact J19 (((tf 6).toInt - (pf83 11).toInt).toNat + 1) pf83 na65 ma66 wa v68 (-1) _ _ ls (show (pf83 24).toInt = (pf 24).toInt from (oz_1687f4cc65 e73 e93)) (show (pf83 25).toInt = (pf 25).toInt from (oz_1687f4cc65 e74 e94)) (show (pf83 26).toInt = (pf 26).toInt from (oz_1687f4cc65 e75 e95)) (show (pf83 12).toInt = (pf 12).toInt + 1 from (oz_cbf156e4b5 e72 e90)) (show (pf83 12).toInt ≤ 60 from (oz_6710fd9021 e90 e91)) (show (pf 11).toInt + 1 ≤ (pf83 11).toInt from (oz_5a83f0d431 e71 e86)) (show (pf83 11).toInt < (tf 6).toInt from e87) (show v68.toInt = (pf 13).toInt from e69) (show v68.toInt < (pf83 13).toInt from (oz_c94e31fc97 e69 e92 e70)) (show (pf83 13).toInt - (pf 13).toInt ≤ (pf83 11).toInt - (pf 11).toInt from (oz_3b92106684 e70 e71 e86 e92)) (show bp ta (pf 11) + 1 ≤ bp ta (pf83 11) from (oz_01a688a826 qb781 e88 e89)) (show (-1 : Int) = -1 ∨ v68.toInt + 1 ≤ (-1 : Int) from by omega) (show (-1 : Int) < (pf83 13).toInt from (oz_7b131bab08 e92 e70 g5)) (show FrB (pf 13).toInt na ma na65 ma66 from hfb) (show FrW (pf 26).toInt wa wa from hfw) (show NdF (tf 6).toInt na65 v68 20 (pf 11) from ⟨(oz_f3ebed1ad0 e69 g5), hf_14_v68, hf_15_v68, ⟨g0, g1⟩, hf_21_v68⟩) (show ZfS ta (tf 6).toInt na65 ma66 (na65 17) v68 (-1) (v68.toInt + 1) (pf83 13).toInt (3 * (bp ta (pf83 11) - bp ta (pf 11))) (199 - (pf 12).toInt) from ⟨_, hf_17_v68, Or.inl ⟨by decide, by decide, by omega⟩⟩) (show FsI (tf 6).toInt (pf83 13).toInt na65 from (FsI.le hfs (by omega))) (show K_mp_block_19 (RL_mp_statement lv) ta pf na ma wa pf83 na65 ma66 wa v68 (-1) from (fun y_f0 y_f1 y_f2 y_f3 y_v y_t k hE => Exists.intro (k + 1) (Or.inl ⟨rfl, pf64, na65, ma66, v68, e77, Or.inr ⟨pf83, e96, hE⟩⟩))) (show (tf 6).toInt - (pf83 11).toInt < (((((tf 6).toInt - (pf83 11).toInt).toNat + 1 : Nat) : Int) : Int) from oz_natlt) hw (lv_sub hl [2, 1, 0] rfl) | (exact J19 (((tf 6).toInt - (pf83 11).toInt).toNat + 1) pf83 na65 ma66 wa v68 (-1) _ _ ls (show (pf83 24).toInt = (pf 24).toInt from by first | exact oz_1687f4cc65 e73 e93 | omega) (show (pf83 25).toInt = (pf 25).toInt from by first | exact oz_1687f4cc65 e74 e94 | omega) (show (pf83 26).toInt = (pf 26).toInt from by first | exact oz_1687f4cc65 e75 e95 | omega) (show (pf83 12).toInt = (pf 12).toInt + 1 from by first | exact oz_cbf156e4b5 e72 e90 | omega) (show (pf83 12).toInt ≤ 60 from by first | exact oz_6710fd9021 e90 e91 | omega) (show (pf 11).toInt + 1 ≤ (pf83 11).toInt from by first | exact oz_5a83f0d431 e71 e86 | omega) (show (pf83 11).toInt < (tf 6).toInt from by first | exact e87 | omega) (show v68.toInt = (pf 13).toInt from by first | exact e69 | omega) (show v68.toInt < (pf83 13).toInt from by first | exact oz_c94e31fc97 e69 e92 e70 | omega) (show (pf83 13).toInt - (pf 13).toInt ≤ (pf83 11).toInt - (pf 11).toInt from by first | exact oz_3b92106684 e70 e71 e86 e92 | omega) (show bp ta (pf 11) + 1 ≤ bp ta (pf83 11) from by first | exact oz_01a688a826 qb781 e88 e89 | omega) (show (-1 : Int) = -1 ∨ v68.toInt + 1 ≤ (-1 : Int) from by omega) (show (-1 : Int) < (pf83 13).toInt from by first | exact oz_7b131bab08 e92 e70 g5 | omega) (show FrB (pf 13).toInt na ma na65 ma66 from hfb) (show FrW (pf 26).toInt wa wa from hfw) (show NdF (tf 6).toInt na65 v68 20 (pf 11) from ⟨by first | exact oz_f3ebed1ad0 e69 g5 | omega, hf_14_v68, hf_15_v68, ⟨by first | exact g0 | omega, by first | exact g1 | omega⟩, hf_21_v68⟩) (show ZfS ta (tf 6).toInt na65 ma66 (na65 17) v68 (-1) (v68.toInt + 1) (pf83 13).toInt (3 * (bp ta (pf83 11) - bp ta (pf 11))) (199 - (pf 12).toInt) from ⟨_, hf_17_v68, Or.inl ⟨by decide, by decide, by omega⟩⟩) (show FsI (tf 6).toInt (pf83 13).toInt na65 from (FsI.le hfs (by omega))) (show K_mp_block_19 (RL_mp_statement lv) ta pf na ma wa pf83 na65 ma66 wa v68 (-1) from (fun y_f0 y_f1 y_f2 y_f3 y_v y_t k hE => Exists.intro (k + 1) (Or.inl ⟨rfl, pf64, na65, ma66, v68, e77, Or.inr ⟨pf83, e96, hE⟩⟩))) (show (tf 6).toInt - (pf83 11).toInt < (((((tf 6).toInt - (pf83 11).toInt).toNat + 1 : Nat) : Int) : Int) from by first | exact oz_natlt | omega) hw (lv_sub hl [2, 1, 0] rfl))
