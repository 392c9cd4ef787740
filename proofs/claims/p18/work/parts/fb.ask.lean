theorem oz_a285d860c8 {a0 : Int} (h0 : 0 ≤ a0) (h1 : a0 = (0 : Int)) : (0 : Int) = a0 := by omega
theorem oz_3b54ae692d {a0 : Int} (h0 : 0 ≤ a0) (h1 : ¬ a0 = (0 : Int)) (h2 : a0 ≤ 1) : (1 : Int) = a0 := by omega
theorem oz_c8540bec21 {a0 a1 a2 : Int} (h0 : a0 = a1 + a2) (h1 : 0 ≤ a1) (h2 : (20 : Int) ≤ a2) : 0 ≤ a0 := by omega
theorem oz_dc3b43e308 {a0 a1 a2 : Int} (h0 : a0 = a1 + a2) (h1 : a1 + 20 ≤ 2048) (h2 : a2 ≤ 20) : a0 ≤ 2048 := by omega
theorem oz_c825822485 {a0 a1 a2 a3 a4 : Int} (h0 : a3 = a1 + a4) (h1 : a0 = a3 + (1 : Int)) (h2 : a2 = a4 + 1) : a0 = a1 + a2 := by omega
theorem oz_3f0356654e {a0 a1 : Int} (h0 : a0 = a1 + 1) (h1 : (16 : Int) ≤ a1) : 0 ≤ a0 := by omega
theorem oz_e36a6178ce {a0 a1 : Int} (h0 : a0 = a1 + 1) (h1 : ¬ (20 : Int) ≤ a1) : a0 ≤ 20 := by omega
theorem oz_ac4816bc14 {a0 a2 : Int} {n1 : Nat} (h0 : 20 - a2 < ((n1 + 1 : Nat) : Int)) (h1 : a0 = a2 + 1) : 20 - a0 < (n1 : Int) := by omega
theorem oz_d97b138c9b {a0 a1 : Int} (h0 : a0 = a1 + 1) (h1 : ¬ (16 : Int) ≤ a1) : a0 ≤ 20 := by omega
theorem oz_5caae207a3 {a0 a1 : Int} (h0 : a0 = a1 + 1) (h1 : (8 : Int) ≤ a1) : 0 ≤ a0 := by omega
theorem oz_9b6247bf60 {a0 a1 : Int} (h0 : a0 = a1 + 1) (h1 : ¬ (12 : Int) ≤ a1) : a0 ≤ 20 := by omega
theorem oz_98bba6c895 {a0 a1 : Int} (h0 : a0 = a1 + 1) (h1 : (4 : Int) ≤ a1) : 0 ≤ a0 := by omega
theorem oz_da72bd3676 {a0 a1 : Int} (h0 : a0 = a1 + 1) (h1 : ¬ (8 : Int) ≤ a1) : a0 ≤ 20 := by omega
theorem oz_2e13a9180d {a0 a1 : Int} (h0 : a0 = a1 + 1) (h1 : ¬ (4 : Int) ≤ a1) : a0 ≤ 20 := by omega
theorem oz_d0b413ca20 {a0 a1 : Int} (h0 : a1 = a0 + (20 : Int)) (h1 : a1 ≤ (2048 : Int)) : a0 + 20 ≤ 2048 := by omega
theorem oz_e661c21f60  : (0 : Int) ≤ 20 := by omega
theorem oz_32ba32251b {a0 a1 : Int} (h0 : a0 ≤ a1) (h1 : a1 ≤ 2048) : a0 ≤ 2048 := by omega
theorem oz_e25e63ef09 {a0 a1 a2 : Int} (h0 : a1 = a2) (h1 : a1 = (0 : Int)) (h2 : 0 ≤ a2) (h3 : a2 = 0 → 0 ≤ a0 ∧ a0 < 13) : 0 ≤ a0 ∧ a0 < ((13 : Nat) : Int) := by omega
theorem oz_1a2df8431c {a1 a2 a3 : Int} {n0 : Nat} (h0 : (n0 : Int) = a1) (h1 : a2 = a3) (h2 : a2 = (0 : Int)) (h3 : 0 ≤ a3) (h4 : a3 = 0 → 0 ≤ a1 ∧ a1 < 13) : n0 < 13 := by omega
theorem oz_3859d57d28 {a0 : Int} {n1 : Nat} (h0 : (n1 : Int) = a0) (h1 : n1 < 13) : 0 ≤ a0 ∧ a0 < ((13 : Nat) : Int) := by omega
theorem oz_a38e3fbd8b {a0 a1 : Int} (h0 : a1 = (0 : Int)) (h1 : 0 ≤ a1) (h2 : a1 = 0 → 0 ≤ a0 ∧ a0 < 13) : 0 ≤ a0 ∧ a0 < ((13 : Nat) : Int) := by omega
theorem oz_e07a039f23 {a1 a2 : Int} {n0 : Nat} (h0 : (n0 : Int) = a1) (h1 : a2 = (0 : Int)) (h2 : 0 ≤ a2) (h3 : a2 = 0 → 0 ≤ a1 ∧ a1 < 13) : n0 < 13 := by omega
theorem oz_6cbab4594c {a0 : Int} (h0 : ¬ a0 < (0 : Int)) (h1 : ¬ (255 : Int) < a0) : 0 ≤ a0 ∧ a0 < ((256 : Nat) : Int) := by omega
theorem oz_62a23ed4d6 {a1 : Int} {n0 : Nat} (h0 : (n0 : Int) = a1) (h1 : a1 < (1 : Int)) : n0 < 13 := by omega
theorem oz_5602c1b1f7 {a0 : Int} {n1 : Nat} (h0 : (n1 : Int) = a0) (h1 : a0 < (1 : Int)) : 0 ≤ a0 ∧ a0 < ((13 : Nat) : Int) := by omega
theorem oz_63f4c236b1 {a0 : Int} (h0 : ¬ a0 < (1 : Int)) (h1 : a0 < (13 : Int)) : 0 ≤ a0 ∧ a0 < ((13 : Nat) : Int) := by omega
theorem oz_493f3b5f7b {a1 : Int} {n0 : Nat} (h0 : (n0 : Int) = a1) (h1 : a1 < (13 : Int)) : n0 < 13 := by omega
theorem oz_2ead38c026 {a0 : Int} (h0 : ¬ a0 < (13 : Int)) : 0 ≤ a0 := by omega
theorem oz_41c7eadd92 {a0 : Int} {n1 : Nat} (h0 : ¬ a0 < (13 : Int)) (h1 : (n1 : Int) = a0) (h2 : n1 < 13) : 0 ≤ a0 ∧ a0 < ((13 : Nat) : Int) := by omega
theorem oz_a45469f712 {a0 : Int} (h0 : ¬ a0 < (0 : Int)) (h1 : a0 ≤ (127 : Int)) : 0 ≤ a0 ∧ a0 < ((128 : Nat) : Int) := by omega
theorem m11_79 : Cond.fieldLink "HomeSystemModel" 7 "HomeSystemModel" "tape" "[B" ∈ AL := AL_11 (List.mem_of_getElem? (i := 79) rfl) rfl
theorem m11_80 : Cond.fieldLink "HomeSystemModel" 38 "HomeSystemModel" "taped" "I" ∈ AL := AL_11 (List.mem_of_getElem? (i := 80) rfl) rfl
theorem m11_81 : Cond.fieldLink "HomeSystemModel" 52 "HomeSystemModel" "place" "I" ∈ AL := AL_11 (List.mem_of_getElem? (i := 81) rfl) rfl
theorem m13_147 : Cond.constant "HomeSystemModel" 64 (100000) ∈ AL := AL_13 (List.mem_of_getElem? (i := 147) rfl) rfl
theorem m14_178 : Cond.methodLink "HomeSystemModel" 233 ⟨"HomeSystemModel", "isNone", "(I)Z"⟩ ∈ AL := AL_14 (List.mem_of_getElem? (i := 178) rfl) rfl
theorem m14_180 : Cond.code ⟨"HomeSystemModel", "isNone", "(I)Z"⟩ prog_14_method_30_code 1 (Option.some FieldType.boolean) ∈ AL := AL_14 (List.mem_of_getElem? (i := 180) rfl) rfl
theorem m14_179 : Cond.static ⟨"HomeSystemModel", "isNone", "(I)Z"⟩ ∈ AL := AL_14 (List.mem_of_getElem? (i := 179) rfl) rfl
theorem m14_181 : Cond.methodLink "HomeSystemModel" 236 ⟨"HomeSystemModel", "refused", "(Z)Z"⟩ ∈ AL := AL_14 (List.mem_of_getElem? (i := 181) rfl) rfl
theorem m14_184 : Cond.code ⟨"HomeSystemModel", "refused", "(Z)Z"⟩ prog_14_method_29_code 2 (Option.some FieldType.boolean) ∈ AL := AL_14 (List.mem_of_getElem? (i := 184) rfl) rfl
theorem ms_17_7 : Cond.selects "HomeSystemModel" ⟨"HomeSystemModel", "refused", "(Z)Z"⟩ ⟨"HomeSystemModel", "refused", "(Z)Z"⟩ ∈ AL := AL_p (q := (⟨"HomeSystemModel", "refused", "(Z)Z"⟩, 11)) (by unfold lw_privs; exact List.mem_append_right _ (List.mem_append_right _ (List.mem_append_right _ (List.mem_append_right _ (List.mem_append_right _ (List.mem_append_right _ (List.mem_append_right _ (List.mem_append_right _ (List.mem_append_right _ (List.mem_append_right _ (List.mem_append_right _ (List.mem_append_right _ (List.mem_append_right _ (List.mem_append_right _ (List.mem_append_right _ (List.mem_append_right _ (List.mem_of_getElem? (i := 7) rfl)))))))))))))))))
theorem m14_183 : Cond.instanceMethod ⟨"HomeSystemModel", "refused", "(Z)Z"⟩ ∈ AL := AL_14 (List.mem_of_getElem? (i := 183) rfl) rfl
theorem m11_24 : Cond.fieldLink "HomeSystemModel" 240 "HomeSystemModel$Process" "papers" "[I" ∈ AL := AL_11 (List.mem_of_getElem? (i := 24) rfl) rfl
abbrev b_Mo_refused : ByteArray := prog_14_method_29_code
def y_Mo_refused : MethodName := ⟨"HomeSystemModel", "refused", "(Z)Z"⟩
theorem d_Mo_refused_0 : decode b_Mo_refused 0 = .ok (.aload_n 0, 1) := by decide +kernel
theorem d_Mo_refused_1 : decode b_Mo_refused 1 = .ok (.iload_n 1, 1) := by decide +kernel
theorem d_Mo_refused_2 : decode b_Mo_refused 2 = .ok (.ifCond .eq 7, 3) := by decide +kernel
theorem d_Mo_refused_5 : decode b_Mo_refused 5 = .ok (.iconst 1, 1) := by decide +kernel
theorem d_Mo_refused_6 : decode b_Mo_refused 6 = .ok (.goto 4, 3) := by decide +kernel
theorem d_Mo_refused_9 : decode b_Mo_refused 9 = .ok (.iconst 0, 1) := by decide +kernel
theorem d_Mo_refused_10 : decode b_Mo_refused 10 = .ok (.putfield 35, 3) := by decide +kernel
theorem d_Mo_refused_13 : decode b_Mo_refused 13 = .ok (.iload_n 1, 1) := by decide +kernel
theorem d_Mo_refused_14 : decode b_Mo_refused 14 = .ok (.ireturn, 1) := by decide +kernel
theorem q_Mo_refused : px_y y_Mo_refused 1 := by unfold px_y; decide +kernel
set_option maxHeartbeats 4000000 in
set_option maxRecDepth 100000 in
theorem c_mo_refused (l : Launch) (D : va_G) (cs : Nat → ClassId) (mo : Nat) (mr : Nat → Nat) (md : Nat → Nat → Int32) (mf : Nat → Int32) (hq : Nat → Nat) (qr : Nat → Nat → Nat) (QO : Nat → Option Nat) (QF : Nat → Nat → Int32) (QA : Nat → Nat → Nat → Int32) (PG : Nat → Pgs) (p0 : Int32)  (g0 : 0 ≤ p0.toInt) (g1 : p0.toInt ≤ 1) (hpn : PrN QF) (hpg : PgA PG) : MetI l y_Mo_refused b_Mo_refused 2 (.boolean) D cs 0 0 (0) (0) [.ref mo, .int p0] [wd_Mo cs mo mr (fun _ => none) mf md (gMo PG hq), fm 13 (fPr cs hq qr QO QF QA), fm 8 (fPg cs PG)] (fun _ => True) (fun v ps => ∃ (mf' : Nat → Int32), (ps = [wd_Mo cs mo mr (fun _ => none) mf' md (gMo PG hq), fm 13 (fPr cs hq qr QO QF QA), fm 8 (fPg cs PG)]) ∧ ((mf' 2).toInt = (mf 2).toInt) ∧ ((mf' 3).toInt = (mf 3).toInt) ∧ ((mf' 10).toInt = (mf 10).toInt) ∧ (v.toInt = p0.toInt) ∧ ((mf' 0).toInt = p0.toInt)) := by
  refine px_enter (by decide) (Nat.le_of_ble_eq_true rfl) ?_
  intro p e s m below meth c A ls hAe S hr hlk hnm hA hT hX hw hl
  have hl : lv_has ls 2 [(0, .ref mo), (1, .int p0)] := hl
  have lp0 := Int32.le_toInt p0
  have up0 := Int32.toInt_lt p0
  have cst0 : (0 : Int32).toInt = 0 := rfl
  have cst1 : (1 : Int32).toInt = 1 := rfl
  refine lv_aload_n S.x S.b d_Mo_refused_0 rfl (lv_at hl 0 rfl) ?_
  refine lv_iload_n S.x S.b d_Mo_refused_1 rfl (lv_at hl 1 rfl) ?_
  refine lv_if_eq (tgt := 9) S.x S.b d_Mo_refused_2 (by decide) (fun c1 => ?_) (fun c1 => ?_)
  · have nc1 : p0.toInt = (0 : Int) := (i_eq (x := p0) (y := 0)).mp c1
    refine lv_iconst (v := 0) S.x S.b d_Mo_refused_9 (by decide) ?_
    refine px_put S k_Mo hT hw 0 0 0 rfl rfl (by decide) m11_78 rfl rfl rfl (Nat.le_of_ble_eq_true rfl) d_Mo_refused_10 (w' := wd_Mo cs mo mr (fun _ => none) (upd mf 0 0) md (gMo PG hq)) (ps' := [wd_Mo cs mo mr (fun _ => none) (upd mf 0 0) md (gMo PG hq), fm 13 (fPr cs hq qr QO QF QA), fm 8 (fPg cs PG)]) rfl rfl (fun H locs hw => ?_)
    refine lv_iload_n S.x S.b d_Mo_refused_13 rfl (lv_at hl 1 rfl) ?_
    exact px_iret (v := p0) S hr (z_nar (by omega)) hlk hAe hw (Nat.le_of_ble_eq_true rfl) (Nat.le_of_ble_eq_true rfl) (⟨(upd mf 0 0), rfl, (show (mf 2).toInt = (mf 2).toInt from rfl), (show (mf 3).toInt = (mf 3).toInt from rfl), (show (mf 10).toInt = (mf 10).toInt from rfl), (show p0.toInt = p0.toInt from rfl), (show (0 : Int) = p0.toInt from by first | exact oz_a285d860c8 g0 nc1 | omega)⟩) d_Mo_refused_14
  · have nc1 : ¬ p0.toInt = (0 : Int) := mt (i_eq (x := p0) (y := 0)).mpr c1
    refine lv_iconst (v := 1) S.x S.b d_Mo_refused_5 (by decide) ?_
    refine lv_goto (tgt := 10) S.x S.b d_Mo_refused_6 (by decide) ?_
    refine px_put S k_Mo hT hw 0 0 0 rfl rfl (by decide) m11_78 rfl rfl rfl (Nat.le_of_ble_eq_true rfl) d_Mo_refused_10 (w' := wd_Mo cs mo mr (fun _ => none) (upd mf 0 1) md (gMo PG hq)) (ps' := [wd_Mo cs mo mr (fun _ => none) (upd mf 0 1) md (gMo PG hq), fm 13 (fPr cs hq qr QO QF QA), fm 8 (fPg cs PG)]) rfl rfl (fun H locs hw => ?_)
    refine lv_iload_n S.x S.b d_Mo_refused_13 rfl (lv_at hl 1 rfl) ?_
    exact px_iret (v := p0) S hr (z_nar (by omega)) hlk hAe hw (Nat.le_of_ble_eq_true rfl) (Nat.le_of_ble_eq_true rfl) (⟨(upd mf 0 1), rfl, (show (mf 2).toInt = (mf 2).toInt from rfl), (show (mf 3).toInt = (mf 3).toInt from rfl), (show (mf 10).toInt = (mf 10).toInt from rfl), (show p0.toInt = p0.toInt from rfl), (show (1 : Int) = p0.toInt from by first | exact oz_3b54ae692d g0 nc1 g1 | omega)⟩) d_Mo_refused_14
abbrev b_Mo_feed : ByteArray := prog_14_method_3_code
def y_Mo_feed : MethodName := ⟨"HomeSystemModel", "feed", "(IIIII)V"⟩
theorem d_Mo_feed_0 : decode b_Mo_feed 0 = .ok (.aload_n 0, 1) := by decide +kernel
theorem d_Mo_feed_1 : decode b_Mo_feed 1 = .ok (.aload_n 0, 1) := by decide +kernel
theorem d_Mo_feed_2 : decode b_Mo_feed 2 = .ok (.getfield 38, 3) := by decide +kernel
theorem d_Mo_feed_5 : decode b_Mo_feed 5 = .ok (.bipush 20, 2) := by decide +kernel
theorem d_Mo_feed_7 : decode b_Mo_feed 7 = .ok (.iadd, 1) := by decide +kernel
theorem d_Mo_feed_8 : decode b_Mo_feed 8 = .ok (.sipush 2048, 3) := by decide +kernel
theorem d_Mo_feed_11 : decode b_Mo_feed 11 = .ok (.if_icmp .le 7, 3) := by decide +kernel
theorem d_Mo_feed_14 : decode b_Mo_feed 14 = .ok (.iconst 1, 1) := by decide +kernel
theorem d_Mo_feed_15 : decode b_Mo_feed 15 = .ok (.goto 4, 3) := by decide +kernel
theorem d_Mo_feed_18 : decode b_Mo_feed 18 = .ok (.iconst 0, 1) := by decide +kernel
theorem d_Mo_feed_19 : decode b_Mo_feed 19 = .ok (.putfield 35, 3) := by decide +kernel
theorem d_Mo_feed_22 : decode b_Mo_feed 22 = .ok (.aload_n 0, 1) := by decide +kernel
theorem d_Mo_feed_23 : decode b_Mo_feed 23 = .ok (.getfield 35, 3) := by decide +kernel
theorem d_Mo_feed_26 : decode b_Mo_feed 26 = .ok (.ifCond .le 4, 3) := by decide +kernel
theorem d_Mo_feed_29 : decode b_Mo_feed 29 = .ok (.return_, 1) := by decide +kernel
theorem d_Mo_feed_30 : decode b_Mo_feed 30 = .ok (.iconst 0, 1) := by decide +kernel
theorem d_Mo_feed_31 : decode b_Mo_feed 31 = .ok (.istore 6, 2) := by decide +kernel
theorem d_Mo_feed_33 : decode b_Mo_feed 33 = .ok (.iload 6, 2) := by decide +kernel
theorem d_Mo_feed_35 : decode b_Mo_feed 35 = .ok (.bipush 20, 2) := by decide +kernel
theorem d_Mo_feed_37 : decode b_Mo_feed 37 = .ok (.if_icmp .ge 90, 3) := by decide +kernel
theorem d_Mo_feed_40 : decode b_Mo_feed 40 = .ok (.iload 6, 2) := by decide +kernel
theorem d_Mo_feed_42 : decode b_Mo_feed 42 = .ok (.iconst 4, 1) := by decide +kernel
theorem d_Mo_feed_43 : decode b_Mo_feed 43 = .ok (.if_icmp .ge 7, 3) := by decide +kernel
theorem d_Mo_feed_46 : decode b_Mo_feed 46 = .ok (.iload_n 1, 1) := by decide +kernel
theorem d_Mo_feed_47 : decode b_Mo_feed 47 = .ok (.goto 39, 3) := by decide +kernel
theorem d_Mo_feed_50 : decode b_Mo_feed 50 = .ok (.iload 6, 2) := by decide +kernel
theorem d_Mo_feed_52 : decode b_Mo_feed 52 = .ok (.bipush 8, 2) := by decide +kernel
theorem d_Mo_feed_54 : decode b_Mo_feed 54 = .ok (.if_icmp .ge 7, 3) := by decide +kernel
theorem d_Mo_feed_57 : decode b_Mo_feed 57 = .ok (.iload_n 2, 1) := by decide +kernel
theorem d_Mo_feed_58 : decode b_Mo_feed 58 = .ok (.goto 28, 3) := by decide +kernel
theorem d_Mo_feed_61 : decode b_Mo_feed 61 = .ok (.iload 6, 2) := by decide +kernel
theorem d_Mo_feed_63 : decode b_Mo_feed 63 = .ok (.bipush 12, 2) := by decide +kernel
theorem d_Mo_feed_65 : decode b_Mo_feed 65 = .ok (.if_icmp .ge 7, 3) := by decide +kernel
theorem d_Mo_feed_68 : decode b_Mo_feed 68 = .ok (.iload_n 3, 1) := by decide +kernel
theorem d_Mo_feed_69 : decode b_Mo_feed 69 = .ok (.goto 17, 3) := by decide +kernel
theorem d_Mo_feed_72 : decode b_Mo_feed 72 = .ok (.iload 6, 2) := by decide +kernel
theorem d_Mo_feed_74 : decode b_Mo_feed 74 = .ok (.bipush 16, 2) := by decide +kernel
theorem d_Mo_feed_76 : decode b_Mo_feed 76 = .ok (.if_icmp .ge 8, 3) := by decide +kernel
theorem d_Mo_feed_79 : decode b_Mo_feed 79 = .ok (.iload 4, 2) := by decide +kernel
theorem d_Mo_feed_81 : decode b_Mo_feed 81 = .ok (.goto 5, 3) := by decide +kernel
theorem d_Mo_feed_84 : decode b_Mo_feed 84 = .ok (.iload 5, 2) := by decide +kernel
theorem d_Mo_feed_86 : decode b_Mo_feed 86 = .ok (.istore 7, 2) := by decide +kernel
theorem d_Mo_feed_88 : decode b_Mo_feed 88 = .ok (.aload_n 0, 1) := by decide +kernel
theorem d_Mo_feed_89 : decode b_Mo_feed 89 = .ok (.getfield 7, 3) := by decide +kernel
theorem d_Mo_feed_92 : decode b_Mo_feed 92 = .ok (.aload_n 0, 1) := by decide +kernel
theorem d_Mo_feed_93 : decode b_Mo_feed 93 = .ok (.getfield 38, 3) := by decide +kernel
theorem d_Mo_feed_96 : decode b_Mo_feed 96 = .ok (.iload 7, 2) := by decide +kernel
theorem d_Mo_feed_98 : decode b_Mo_feed 98 = .ok (.bipush 24, 2) := by decide +kernel
theorem d_Mo_feed_100 : decode b_Mo_feed 100 = .ok (.bipush 8, 2) := by decide +kernel
theorem d_Mo_feed_102 : decode b_Mo_feed 102 = .ok (.iload 6, 2) := by decide +kernel
theorem d_Mo_feed_104 : decode b_Mo_feed 104 = .ok (.iconst 4, 1) := by decide +kernel
theorem d_Mo_feed_105 : decode b_Mo_feed 105 = .ok (.irem, 1) := by decide +kernel
theorem d_Mo_feed_106 : decode b_Mo_feed 106 = .ok (.imul, 1) := by decide +kernel
theorem d_Mo_feed_107 : decode b_Mo_feed 107 = .ok (.isub, 1) := by decide +kernel
theorem d_Mo_feed_108 : decode b_Mo_feed 108 = .ok (.ishr, 1) := by decide +kernel
theorem d_Mo_feed_109 : decode b_Mo_feed 109 = .ok (.i2b, 1) := by decide +kernel
theorem d_Mo_feed_110 : decode b_Mo_feed 110 = .ok (.bastore, 1) := by decide +kernel
theorem d_Mo_feed_111 : decode b_Mo_feed 111 = .ok (.aload_n 0, 1) := by decide +kernel
theorem d_Mo_feed_112 : decode b_Mo_feed 112 = .ok (.dup, 1) := by decide +kernel
theorem d_Mo_feed_113 : decode b_Mo_feed 113 = .ok (.getfield 38, 3) := by decide +kernel
theorem d_Mo_feed_116 : decode b_Mo_feed 116 = .ok (.iconst 1, 1) := by decide +kernel
theorem d_Mo_feed_117 : decode b_Mo_feed 117 = .ok (.iadd, 1) := by decide +kernel
theorem d_Mo_feed_118 : decode b_Mo_feed 118 = .ok (.putfield 38, 3) := by decide +kernel
theorem d_Mo_feed_121 : decode b_Mo_feed 121 = .ok (.iinc 6 1, 3) := by decide +kernel
theorem d_Mo_feed_124 : decode b_Mo_feed 124 = .ok (.goto (-91), 3) := by decide +kernel
theorem d_Mo_feed_127 : decode b_Mo_feed 127 = .ok (.return_, 1) := by decide +kernel
theorem q_Mo_feed : px_y y_Mo_feed 5 := by unfold px_y; decide +kernel
set_option maxHeartbeats 4000000 in
set_option maxRecDepth 100000 in
theorem c_mo_feed (l : Launch) (D : va_G) (cs : Nat → ClassId) (mo : Nat) (mr : Nat → Nat) (mf : Nat → Int32) (md : Nat → Nat → Int32) (hq : Nat → Nat) (qr : Nat → Nat → Nat) (QO : Nat → Option Nat) (QF : Nat → Nat → Int32) (QA : Nat → Nat → Nat → Int32) (PG : Nat → Pgs) (p0 p1 p2 p3 p4 : Int32)  (g0 : 0 ≤ (mf 2).toInt) (g1 : (mf 2).toInt ≤ 2048) (hpn : PrN QF) (hpg : PgA PG) : MetV l y_Mo_feed b_Mo_feed 8 D cs 0 0 (0) (0) [.ref mo, .int p0, .int p1, .int p2, .int p3, .int p4] [wd_Mo cs mo mr (fun _ => none) mf md (gMo PG hq), fm 13 (fPr cs hq qr QO QF QA), fm 8 (fPg cs PG)] (fun _ => True) (fun ps => ∃ (mf' : Nat → Int32) (md' : Nat → Nat → Int32), (ps = [wd_Mo cs mo mr (fun _ => none) mf' md' (gMo PG hq), fm 13 (fPr cs hq qr QO QF QA), fm 8 (fPg cs PG)]) ∧ ((mf' 3).toInt = (mf 3).toInt) ∧ ((mf' 10).toInt = (mf 10).toInt) ∧ (0 ≤ (mf' 2).toInt) ∧ ((mf' 2).toInt ≤ 2048) ∧ (((mf 2).toInt + 20 ≤ 2048 ∧ (mf' 0).toInt = 0 ∧ (mf' 2).toInt = (mf 2).toInt + 20) ∨ (2048 < (mf 2).toInt + 20 ∧ (mf' 0).toInt = 1 ∧ (mf' 2).toInt = (mf 2).toInt)) ∧ (R_mo_feed p0 p1 p2 p3 p4 mf md mf' md')) := by
  refine px_enter (by decide) (Nat.le_of_ble_eq_true rfl) ?_
  intro p e s m below meth c A ls hAe S hr hlk hnm hA hT hX hw hl
  have hl : lv_has ls 8 [(0, .ref mo), (1, .int p0), (2, .int p1), (3, .int p2), (4, .int p3), (5, .int p4)] := hl
  have lp0 := Int32.le_toInt p0
  have up0 := Int32.toInt_lt p0
  have lp1 := Int32.le_toInt p1
  have up1 := Int32.toInt_lt p1
  have lp2 := Int32.le_toInt p2
  have up2 := Int32.toInt_lt p2
  have lp3 := Int32.le_toInt p3
  have up3 := Int32.toInt_lt p3
  have lp4 := Int32.le_toInt p4
  have up4 := Int32.toInt_lt p4
  have cst0 : (0 : Int32).toInt = 0 := rfl
  have cst1 : (1 : Int32).toInt = 1 := rfl
  have cst4 : (4 : Int32).toInt = 4 := rfl
  have cst8 : (8 : Int32).toInt = 8 := rfl
  have cst12 : (12 : Int32).toInt = 12 := rfl
  have cst16 : (16 : Int32).toInt = 16 := rfl
  have cst20 : (20 : Int32).toInt = 20 := rfl
  have cst24 : (24 : Int32).toInt = 24 := rfl
  have cst2048 : (2048 : Int32).toInt = 2048 := rfl
  have J33 : ∀ (n_33 : Nat) (mf_33 : Nat → Int32) (md_33 : Nat → Nat → Int32) (x33_6 : Int32) (H : Heap) (locs : List Loc) (ls : Array Slot), ((mf_33 3).toInt = (mf 3).toInt) → ((mf_33 10).toInt = (mf 10).toInt) → ((mf_33 2).toInt = (mf 2).toInt + x33_6.toInt) → ((mf 2).toInt + 20 ≤ 2048) → (0 ≤ x33_6.toInt) → (x33_6.toInt ≤ 20) → ((mf_33 0).toInt = 0) → (K_mo_feed_33 p0 p1 p2 p3 p4 mf md mf_33 md_33 x33_6) → 20 - x33_6.toInt < (n_33 : Int) → pw D A s.heap H locs [wd_Mo cs mo mr (fun _ => none) mf_33 md_33 (gMo PG hq), fm 13 (fPr cs hq qr QO QF QA), fm 8 (fPg cs PG)] → lv_has ls 8 [(0, .ref mo), (1, .int p0), (2, .int p1), (3, .int p2), (4, .int p3), (5, .int p4), (6, .int x33_6)] → W p l e { frames := 0, cells := 0, slots := 0, locals := 0 } s m [.ref mo, .int p0, .int p1, .int p2, .int p3, .int p4].toArray below meth c H locs 0 0 (MQ below (va_Qv (fun ps => ∃ (mf' : Nat → Int32) (md' : Nat → Nat → Int32), (ps = [wd_Mo cs mo mr (fun _ => none) mf' md' (gMo PG hq), fm 13 (fPr cs hq qr QO QF QA), fm 8 (fPg cs PG)]) ∧ ((mf' 3).toInt = (mf 3).toInt) ∧ ((mf' 10).toInt = (mf 10).toInt) ∧ (0 ≤ (mf' 2).toInt) ∧ ((mf' 2).toInt ≤ 2048) ∧ (((mf 2).toInt + 20 ≤ 2048 ∧ (mf' 0).toInt = 0 ∧ (mf' 2).toInt = (mf 2).toInt + 20) ∨ (2048 < (mf 2).toInt + 20 ∧ (mf' 0).toInt = 1 ∧ (mf' 2).toInt = (mf 2).toInt)) ∧ (R_mo_feed p0 p1 p2 p3 p4 mf md mf' md')) (pc_B D (va_A ([wd_Mo cs mo mr (fun _ => none) mf md (gMo PG hq), fm 13 (fPr cs hq qr QO QF QA), fm 8 (fPg cs PG)] : List va_W).flatten s.heap.size)) (va_A ([wd_Mo cs mo mr (fun _ => none) mf md (gMo PG hq), fm 13 (fPr cs hq qr QO QF QA), fm 8 (fPg cs PG)] : List va_W).flatten s.heap.size)) [.ref mo, .int p0, .int p1, .int p2, .int p3, .int p4].toArray s 0 0 A) (F0 m 33 ls []) := by
    intro  n_33
    induction n_33 with
    | zero =>
      intro mf_33 md_33 x33_6 H locs ls k33_0 k33_1 k33_2 k33_3 k33_4 k33_5 k33_6 k33_7 hm hw hl
      have lx33_6 := Int32.le_toInt x33_6
      have ux33_6 := Int32.toInt_lt x33_6
      exact absurd hm (by omega)
    | succ n_33 ih33 =>
      intro mf_33 md_33 x33_6 H locs ls k33_0 k33_1 k33_2 k33_3 k33_4 k33_5 k33_6 k33_7 hm hw hl
      have lx33_6 := Int32.le_toInt x33_6
      have ux33_6 := Int32.toInt_lt x33_6
      refine lv_iload S.x S.b d_Mo_feed_33 (lv_at hl 6 rfl) ?_
      refine lv_bipush (v := 20) S.x S.b d_Mo_feed_35 (by decide) ?_
      refine lv_icmp_ge (tgt := 127) S.x S.b d_Mo_feed_37 (by decide) (fun c1 => ?_) (fun c1 => ?_)
      · have nc1 : (20 : Int) ≤ x33_6.toInt := (i_le (x := 20) (y := x33_6)).mp c1
        exact px_vret S hr hlk hAe hw (Nat.le_of_ble_eq_true rfl) (Nat.le_of_ble_eq_true rfl) (⟨mf_33, md_33, rfl, (show (mf_33 3).toInt = (mf 3).toInt from by first | exact k33_0 | omega), (show (mf_33 10).toInt = (mf 10).toInt from by first | exact k33_1 | omega), (show 0 ≤ (mf_33 2).toInt from by first | exact oz_c8540bec21 k33_2 g0 nc1 | omega), (show (mf_33 2).toInt ≤ 2048 from by first | exact oz_dc3b43e308 k33_2 k33_3 k33_5 | omega), (show ((mf 2).toInt + 20 ≤ 2048 ∧ (mf_33 0).toInt = 0 ∧ (mf_33 2).toInt = (mf 2).toInt + 20) ∨ (2048 < (mf 2).toInt + 20 ∧ (mf_33 0).toInt = 1 ∧ (mf_33 2).toInt = (mf 2).toInt) from by omega), (show R_mo_feed p0 p1 p2 p3 p4 mf md mf_33 md_33 from (k33_7 _ _ 1 (Or.inr (Or.inl ⟨rfl, x33_6, rfl, rfl, rfl, rfl, rfl, Or.inl ⟨nc1, rfl, rfl⟩⟩))))⟩) d_Mo_feed_127
      · have nc1 : ¬ (20 : Int) ≤ x33_6.toInt := mt (i_le (x := 20) (y := x33_6)).mpr c1
        refine lv_iload S.x S.b d_Mo_feed_40 (lv_at hl 6 rfl) ?_
        refine lv_iconst (v := 4) S.x S.b d_Mo_feed_42 (by decide) ?_
        refine lv_icmp_ge (tgt := 50) S.x S.b d_Mo_feed_43 (by decide) (fun c3 => ?_) (fun c3 => ?_)
        · have nc3 : (4 : Int) ≤ x33_6.toInt := (i_le (x := 4) (y := x33_6)).mp c3
          refine lv_iload S.x S.b d_Mo_feed_50 (lv_at hl 6 rfl) ?_
          refine lv_bipush (v := 8) S.x S.b d_Mo_feed_52 (by decide) ?_
          refine lv_icmp_ge (tgt := 61) S.x S.b d_Mo_feed_54 (by decide) (fun c5 => ?_) (fun c5 => ?_)
          · have nc5 : (8 : Int) ≤ x33_6.toInt := (i_le (x := 8) (y := x33_6)).mp c5
            refine lv_iload S.x S.b d_Mo_feed_61 (lv_at hl 6 rfl) ?_
            refine lv_bipush (v := 12) S.x S.b d_Mo_feed_63 (by decide) ?_
            refine lv_icmp_ge (tgt := 72) S.x S.b d_Mo_feed_65 (by decide) (fun c7 => ?_) (fun c7 => ?_)
            · have nc7 : (12 : Int) ≤ x33_6.toInt := (i_le (x := 12) (y := x33_6)).mp c7
              refine lv_iload S.x S.b d_Mo_feed_72 (lv_at hl 6 rfl) ?_
              refine lv_bipush (v := 16) S.x S.b d_Mo_feed_74 (by decide) ?_
              refine lv_icmp_ge (tgt := 84) S.x S.b d_Mo_feed_76 (by decide) (fun c9 => ?_) (fun c9 => ?_)
              · have nc9 : (16 : Int) ≤ x33_6.toInt := (i_le (x := 16) (y := x33_6)).mp c9
                refine lv_iload S.x S.b d_Mo_feed_84 (lv_at hl 5 rfl) ?_
                refine lv_istore (lv' := [(7, .int p4), (0, .ref mo), (1, .int p0), (2, .int p1), (3, .int p2), (4, .int p3), (5, .int p4), (6, .int x33_6)]) S.x S.b d_Mo_feed_86 hl (by decide) rfl (fun ls hl => ?_)
                refine lv_aload_n S.x S.b d_Mo_feed_88 rfl (lv_at hl 1 rfl) ?_
                refine px_get S k_Mo hT hw 0 0 1 (v := .ref (mr 1)) rfl rfl rfl (by decide) m11_79 d_Mo_feed_89 ?_
                refine lv_aload_n S.x S.b d_Mo_feed_92 rfl (lv_at hl 1 rfl) ?_
                refine px_get S k_Mo hT hw 0 0 2 (v := .int (mf_33 2)) rfl rfl rfl (by decide) m11_80 d_Mo_feed_93 ?_
                refine lv_iload S.x S.b d_Mo_feed_96 (lv_at hl 0 rfl) ?_
                refine lv_bipush (v := 24) S.x S.b d_Mo_feed_98 (by decide) ?_
                refine lv_bipush (v := 8) S.x S.b d_Mo_feed_100 (by decide) ?_
                refine lv_iload S.x S.b d_Mo_feed_102 (lv_at hl 7 rfl) ?_
                refine lv_iconst (v := 4) S.x S.b d_Mo_feed_104 (by decide) ?_
                refine lv_irem S.x S.b d_Mo_feed_105 (by decide) ?_
                refine lv_topi (fun z11 ez11 => ?_)
                have lz11 := Int32.le_toInt z11
                have uz11 := Int32.toInt_lt z11
                refine lv_imul S.x S.b d_Mo_feed_106 ?_
                refine lv_topi (fun z12 ez12 => ?_)
                have lz12 := Int32.le_toInt z12
                have uz12 := Int32.toInt_lt z12
                have tz12 : -2147483648 ≤ 8 * z11.toInt → 8 * z11.toInt < 2147483648 → z12.toInt = 8 * z11.toInt := by rw [ez12]; exact i_mulc 8 z11 (by decide)
                try replace tz12 : z12.toInt = 8 * z11.toInt := by omega
                refine lv_isub S.x S.b d_Mo_feed_107 ?_
                refine lv_topi (fun z13 ez13 => ?_)
                have tz13 : z13.toInt = ((24 : Int) - z12.toInt + 2147483648) % 4294967296 - 2147483648 := by rw [ez13]; exact i_sub 24 z12
                have lz13 := Int32.le_toInt z13
                have uz13 := Int32.toInt_lt z13
                try replace tz13 : z13.toInt = (24 : Int) - z12.toInt := by omega
                refine lv_ishr S.x S.b d_Mo_feed_108 ?_
                refine lv_topi (fun z14 ez14 => ?_)
                have lz14 := Int32.le_toInt z14
                have uz14 := Int32.toInt_lt z14
                refine lv_i2b S.x S.b d_Mo_feed_109 rfl ?_
                refine lv_topi (fun z15 ez15 => ?_)
                have lz15 := Int32.le_toInt z15
                have uz15 := Int32.toInt_lt z15
                refine px_bast S hT hw 0 1 (n := 2048) (f := (md_33 1)) (x := (mf_33 2)) (y := z15) rfl (ga_Mo_1 _ _ _ _ _ _ _) (vp_in_iff.mpr (by constructor <;> omega)) d_Mo_feed_110 (w' := wd_Mo cs mo mr (fun _ => none) mf_33 (va_up md_33 1 (upd (md_33 1) (mf_33 2).toNatClampNeg (vp_nar .byte z15))) (gMo PG hq)) (ps' := [wd_Mo cs mo mr (fun _ => none) mf_33 (va_up md_33 1 (upd (md_33 1) (mf_33 2).toNatClampNeg (vp_nar .byte z15))) (gMo PG hq), fm 13 (fPr cs hq qr QO QF QA), fm 8 (fPg cs PG)]) (sa_Mo_1 _ _ _ _ _ _ _ _) rfl (fun H locs hw => ?_)
                refine lv_aload_n S.x S.b d_Mo_feed_111 rfl (lv_at hl 1 rfl) ?_
                refine lv_dup S.x S.b d_Mo_feed_112 rfl ?_
                refine px_get S k_Mo hT hw 0 0 2 (v := .int (mf_33 2)) rfl rfl rfl (by decide) m11_80 d_Mo_feed_113 ?_
                refine lv_iconst (v := 1) S.x S.b d_Mo_feed_116 (by decide) ?_
                refine lv_iadd S.x S.b d_Mo_feed_117 ?_
                have lr16 := Int32.le_toInt (mf_33 2)
                have ur16 := Int32.toInt_lt (mf_33 2)
                refine lv_topi (fun z17 ez17 => ?_)
                have tz17 : z17.toInt = ((mf_33 2).toInt + (1 : Int) + 2147483648) % 4294967296 - 2147483648 := by rw [ez17]; exact i_add (mf_33 2) 1
                have lz17 := Int32.le_toInt z17
                have uz17 := Int32.toInt_lt z17
                try replace tz17 : z17.toInt = (mf_33 2).toInt + (1 : Int) := by omega
                refine px_put S k_Mo hT hw 0 0 2 rfl rfl (by decide) m11_80 rfl rfl rfl (Nat.le_of_ble_eq_true rfl) d_Mo_feed_118 (w' := wd_Mo cs mo mr (fun _ => none) (upd mf_33 2 z17) (va_up md_33 1 (upd (md_33 1) (mf_33 2).toNatClampNeg (vp_nar .byte z15))) (gMo PG hq)) (ps' := [wd_Mo cs mo mr (fun _ => none) (upd mf_33 2 z17) (va_up md_33 1 (upd (md_33 1) (mf_33 2).toNatClampNeg (vp_nar .byte z15))) (gMo PG hq), fm 13 (fPr cs hq qr QO QF QA), fm 8 (fPg cs PG)]) rfl rfl (fun H locs hw => ?_)
                obtain ⟨z18, ez18⟩ : ∃ y : Int32, y = x33_6 + 1 := ⟨_, rfl⟩
                have tz18 : z18.toInt = (x33_6.toInt + 1 + 2147483648) % 4294967296 - 2147483648 := by rw [ez18]; exact i_add x33_6 1
                have lz18 := Int32.le_toInt z18
                have uz18 := Int32.toInt_lt z18
                try replace tz18 : z18.toInt = x33_6.toInt + 1 := by omega
                refine lv_iinc (v := z18) (lv' := [(6, .int z18), (7, .int p4), (0, .ref mo), (1, .int p0), (2, .int p1), (3, .int p2), (4, .int p3), (5, .int p4)]) S.x S.b d_Mo_feed_121 hl (k := 7) rfl (by rw [ez18]; rfl) (by decide) rfl (fun ls hl => ?_)
                refine lv_goto (tgt := 33) S.x S.b d_Mo_feed_124 (by decide) ?_
                exact ih33 (upd mf_33 2 z17) (va_up md_33 1 (upd (md_33 1) (mf_33 2).toNatClampNeg (vp_nar .byte z15))) z18 _ _ ls (show (mf_33 3).toInt = (mf 3).toInt from by first | exact k33_0 | omega) (show (mf_33 10).toInt = (mf 10).toInt from by first | exact k33_1 | omega) (show z17.toInt = (mf 2).toInt + z18.toInt from by first | exact oz_c825822485 k33_2 tz17 tz18 | omega) (show (mf 2).toInt + 20 ≤ 2048 from by first | exact k33_3 | omega) (show 0 ≤ z18.toInt from by first | exact oz_3f0356654e tz18 nc9 | omega) (show z18.toInt ≤ 20 from by first | exact oz_e36a6178ce tz18 nc1 | omega) (show (mf_33 0).toInt = 0 from by first | exact k33_6 | omega) (show K_mo_feed_33 p0 p1 p2 p3 p4 mf md (upd mf_33 2 z17) (va_up md_33 1 (upd (md_33 1) (mf_33 2).toNatClampNeg (vp_nar .byte z15))) z18 from (fun y_f0 y_f1 k hE => k33_7 y_f0 y_f1 (k + 1) (Or.inr (Or.inl ⟨rfl, x33_6, rfl, rfl, rfl, rfl, rfl, Or.inr ⟨nc1, Or.inl ⟨nc3, Or.inl ⟨nc5, Or.inl ⟨nc7, Or.inl ⟨nc9, z11, ez11, z12, ez12, z13, ez13, z14, ez14, z15, ez15, z17, ez17, z18, ez18, hE⟩⟩⟩⟩⟩⟩)))) (show 20 - z18.toInt < (n_33 : Int) from by first | exact oz_ac4816bc14 hm tz18 | omega) hw (lv_sub hl [2, 3, 4, 5, 6, 7, 0] rfl)
              · have nc9 : ¬ (16 : Int) ≤ x33_6.toInt := mt (i_le (x := 16) (y := x33_6)).mpr c9
                refine lv_iload S.x S.b d_Mo_feed_79 (lv_at hl 4 rfl) ?_
                refine lv_goto (tgt := 86) S.x S.b d_Mo_feed_81 (by decide) ?_
                refine lv_istore (lv' := [(7, .int p3), (0, .ref mo), (1, .int p0), (2, .int p1), (3, .int p2), (4, .int p3), (5, .int p4), (6, .int x33_6)]) S.x S.b d_Mo_feed_86 hl (by decide) rfl (fun ls hl => ?_)
                refine lv_aload_n S.x S.b d_Mo_feed_88 rfl (lv_at hl 1 rfl) ?_
                refine px_get S k_Mo hT hw 0 0 1 (v := .ref (mr 1)) rfl rfl rfl (by decide) m11_79 d_Mo_feed_89 ?_
                refine lv_aload_n S.x S.b d_Mo_feed_92 rfl (lv_at hl 1 rfl) ?_
                refine px_get S k_Mo hT hw 0 0 2 (v := .int (mf_33 2)) rfl rfl rfl (by decide) m11_80 d_Mo_feed_93 ?_
                refine lv_iload S.x S.b d_Mo_feed_96 (lv_at hl 0 rfl) ?_
                refine lv_bipush (v := 24) S.x S.b d_Mo_feed_98 (by decide) ?_
                refine lv_bipush (v := 8) S.x S.b d_Mo_feed_100 (by decide) ?_
                refine lv_iload S.x S.b d_Mo_feed_102 (lv_at hl 7 rfl) ?_
                refine lv_iconst (v := 4) S.x S.b d_Mo_feed_104 (by decide) ?_
                refine lv_irem S.x S.b d_Mo_feed_105 (by decide) ?_
                refine lv_topi (fun z19 ez19 => ?_)
                have lz19 := Int32.le_toInt z19
                have uz19 := Int32.toInt_lt z19
                refine lv_imul S.x S.b d_Mo_feed_106 ?_
                refine lv_topi (fun z20 ez20 => ?_)
                have lz20 := Int32.le_toInt z20
                have uz20 := Int32.toInt_lt z20
                have tz20 : -2147483648 ≤ 8 * z19.toInt → 8 * z19.toInt < 2147483648 → z20.toInt = 8 * z19.toInt := by rw [ez20]; exact i_mulc 8 z19 (by decide)
                try replace tz20 : z20.toInt = 8 * z19.toInt := by omega
                refine lv_isub S.x S.b d_Mo_feed_107 ?_
                refine lv_topi (fun z21 ez21 => ?_)
                have tz21 : z21.toInt = ((24 : Int) - z20.toInt + 2147483648) % 4294967296 - 2147483648 := by rw [ez21]; exact i_sub 24 z20
                have lz21 := Int32.le_toInt z21
                have uz21 := Int32.toInt_lt z21
                try replace tz21 : z21.toInt = (24 : Int) - z20.toInt := by omega
                refine lv_ishr S.x S.b d_Mo_feed_108 ?_
                refine lv_topi (fun z22 ez22 => ?_)
                have lz22 := Int32.le_toInt z22
                have uz22 := Int32.toInt_lt z22
                refine lv_i2b S.x S.b d_Mo_feed_109 rfl ?_
                refine lv_topi (fun z23 ez23 => ?_)
                have lz23 := Int32.le_toInt z23
                have uz23 := Int32.toInt_lt z23
                refine px_bast S hT hw 0 1 (n := 2048) (f := (md_33 1)) (x := (mf_33 2)) (y := z23) rfl (ga_Mo_1 _ _ _ _ _ _ _) (vp_in_iff.mpr (by constructor <;> omega)) d_Mo_feed_110 (w' := wd_Mo cs mo mr (fun _ => none) mf_33 (va_up md_33 1 (upd (md_33 1) (mf_33 2).toNatClampNeg (vp_nar .byte z23))) (gMo PG hq)) (ps' := [wd_Mo cs mo mr (fun _ => none) mf_33 (va_up md_33 1 (upd (md_33 1) (mf_33 2).toNatClampNeg (vp_nar .byte z23))) (gMo PG hq), fm 13 (fPr cs hq qr QO QF QA), fm 8 (fPg cs PG)]) (sa_Mo_1 _ _ _ _ _ _ _ _) rfl (fun H locs hw => ?_)
                refine lv_aload_n S.x S.b d_Mo_feed_111 rfl (lv_at hl 1 rfl) ?_
                refine lv_dup S.x S.b d_Mo_feed_112 rfl ?_
                refine px_get S k_Mo hT hw 0 0 2 (v := .int (mf_33 2)) rfl rfl rfl (by decide) m11_80 d_Mo_feed_113 ?_
                refine lv_iconst (v := 1) S.x S.b d_Mo_feed_116 (by decide) ?_
                refine lv_iadd S.x S.b d_Mo_feed_117 ?_
                have lr24 := Int32.le_toInt (mf_33 2)
                have ur24 := Int32.toInt_lt (mf_33 2)
                refine lv_topi (fun z25 ez25 => ?_)
                have tz25 : z25.toInt = ((mf_33 2).toInt + (1 : Int) + 2147483648) % 4294967296 - 2147483648 := by rw [ez25]; exact i_add (mf_33 2) 1
                have lz25 := Int32.le_toInt z25
                have uz25 := Int32.toInt_lt z25
                try replace tz25 : z25.toInt = (mf_33 2).toInt + (1 : Int) := by omega
                refine px_put S k_Mo hT hw 0 0 2 rfl rfl (by decide) m11_80 rfl rfl rfl (Nat.le_of_ble_eq_true rfl) d_Mo_feed_118 (w' := wd_Mo cs mo mr (fun _ => none) (upd mf_33 2 z25) (va_up md_33 1 (upd (md_33 1) (mf_33 2).toNatClampNeg (vp_nar .byte z23))) (gMo PG hq)) (ps' := [wd_Mo cs mo mr (fun _ => none) (upd mf_33 2 z25) (va_up md_33 1 (upd (md_33 1) (mf_33 2).toNatClampNeg (vp_nar .byte z23))) (gMo PG hq), fm 13 (fPr cs hq qr QO QF QA), fm 8 (fPg cs PG)]) rfl rfl (fun H locs hw => ?_)
                obtain ⟨z26, ez26⟩ : ∃ y : Int32, y = x33_6 + 1 := ⟨_, rfl⟩
                have tz26 : z26.toInt = (x33_6.toInt + 1 + 2147483648) % 4294967296 - 2147483648 := by rw [ez26]; exact i_add x33_6 1
                have lz26 := Int32.le_toInt z26
                have uz26 := Int32.toInt_lt z26
                try replace tz26 : z26.toInt = x33_6.toInt + 1 := by omega
                refine lv_iinc (v := z26) (lv' := [(6, .int z26), (7, .int p3), (0, .ref mo), (1, .int p0), (2, .int p1), (3, .int p2), (4, .int p3), (5, .int p4)]) S.x S.b d_Mo_feed_121 hl (k := 7) rfl (by rw [ez26]; rfl) (by decide) rfl (fun ls hl => ?_)
                refine lv_goto (tgt := 33) S.x S.b d_Mo_feed_124 (by decide) ?_
                exact ih33 (upd mf_33 2 z25) (va_up md_33 1 (upd (md_33 1) (mf_33 2).toNatClampNeg (vp_nar .byte z23))) z26 _ _ ls (show (mf_33 3).toInt = (mf 3).toInt from by first | exact k33_0 | omega) (show (mf_33 10).toInt = (mf 10).toInt from by first | exact k33_1 | omega) (show z25.toInt = (mf 2).toInt + z26.toInt from by first | exact oz_c825822485 k33_2 tz25 tz26 | omega) (show (mf 2).toInt + 20 ≤ 2048 from by first | exact k33_3 | omega) (show 0 ≤ z26.toInt from by first | exact oz_f5be280463 tz26 nc7 | omega) (show z26.toInt ≤ 20 from by first | exact oz_d97b138c9b tz26 nc9 | omega) (show (mf_33 0).toInt = 0 from by first | exact k33_6 | omega) (show K_mo_feed_33 p0 p1 p2 p3 p4 mf md (upd mf_33 2 z25) (va_up md_33 1 (upd (md_33 1) (mf_33 2).toNatClampNeg (vp_nar .byte z23))) z26 from (fun y_f0 y_f1 k hE => k33_7 y_f0 y_f1 (k + 1) (Or.inr (Or.inl ⟨rfl, x33_6, rfl, rfl, rfl, rfl, rfl, Or.inr ⟨nc1, Or.inl ⟨nc3, Or.inl ⟨nc5, Or.inl ⟨nc7, Or.inr ⟨nc9, z19, ez19, z20, ez20, z21, ez21, z22, ez22, z23, ez23, z25, ez25, z26, ez26, hE⟩⟩⟩⟩⟩⟩)))) (show 20 - z26.toInt < (n_33 : Int) from by first | exact oz_ac4816bc14 hm tz26 | omega) hw (lv_sub hl [2, 3, 4, 5, 6, 7, 0] rfl)
            · have nc7 : ¬ (12 : Int) ≤ x33_6.toInt := mt (i_le (x := 12) (y := x33_6)).mpr c7
              refine lv_iload_n S.x S.b d_Mo_feed_68 rfl (lv_at hl 3 rfl) ?_
              refine lv_goto (tgt := 86) S.x S.b d_Mo_feed_69 (by decide) ?_
              refine lv_istore (lv' := [(7, .int p2), (0, .ref mo), (1, .int p0), (2, .int p1), (3, .int p2), (4, .int p3), (5, .int p4), (6, .int x33_6)]) S.x S.b d_Mo_feed_86 hl (by decide) rfl (fun ls hl => ?_)
              refine lv_aload_n S.x S.b d_Mo_feed_88 rfl (lv_at hl 1 rfl) ?_
              refine px_get S k_Mo hT hw 0 0 1 (v := .ref (mr 1)) rfl rfl rfl (by decide) m11_79 d_Mo_feed_89 ?_
              refine lv_aload_n S.x S.b d_Mo_feed_92 rfl (lv_at hl 1 rfl) ?_
              refine px_get S k_Mo hT hw 0 0 2 (v := .int (mf_33 2)) rfl rfl rfl (by decide) m11_80 d_Mo_feed_93 ?_
              refine lv_iload S.x S.b d_Mo_feed_96 (lv_at hl 0 rfl) ?_
              refine lv_bipush (v := 24) S.x S.b d_Mo_feed_98 (by decide) ?_
              refine lv_bipush (v := 8) S.x S.b d_Mo_feed_100 (by decide) ?_
              refine lv_iload S.x S.b d_Mo_feed_102 (lv_at hl 7 rfl) ?_
              refine lv_iconst (v := 4) S.x S.b d_Mo_feed_104 (by decide) ?_
              refine lv_irem S.x S.b d_Mo_feed_105 (by decide) ?_
              refine lv_topi (fun z27 ez27 => ?_)
              have lz27 := Int32.le_toInt z27
              have uz27 := Int32.toInt_lt z27
              refine lv_imul S.x S.b d_Mo_feed_106 ?_
              refine lv_topi (fun z28 ez28 => ?_)
              have lz28 := Int32.le_toInt z28
              have uz28 := Int32.toInt_lt z28
              have tz28 : -2147483648 ≤ 8 * z27.toInt → 8 * z27.toInt < 2147483648 → z28.toInt = 8 * z27.toInt := by rw [ez28]; exact i_mulc 8 z27 (by decide)
              try replace tz28 : z28.toInt = 8 * z27.toInt := by omega
              refine lv_isub S.x S.b d_Mo_feed_107 ?_
              refine lv_topi (fun z29 ez29 => ?_)
              have tz29 : z29.toInt = ((24 : Int) - z28.toInt + 2147483648) % 4294967296 - 2147483648 := by rw [ez29]; exact i_sub 24 z28
              have lz29 := Int32.le_toInt z29
              have uz29 := Int32.toInt_lt z29
              try replace tz29 : z29.toInt = (24 : Int) - z28.toInt := by omega
              refine lv_ishr S.x S.b d_Mo_feed_108 ?_
              refine lv_topi (fun z30 ez30 => ?_)
              have lz30 := Int32.le_toInt z30
              have uz30 := Int32.toInt_lt z30
              refine lv_i2b S.x S.b d_Mo_feed_109 rfl ?_
              refine lv_topi (fun z31 ez31 => ?_)
              have lz31 := Int32.le_toInt z31
              have uz31 := Int32.toInt_lt z31
              refine px_bast S hT hw 0 1 (n := 2048) (f := (md_33 1)) (x := (mf_33 2)) (y := z31) rfl (ga_Mo_1 _ _ _ _ _ _ _) (vp_in_iff.mpr (by constructor <;> omega)) d_Mo_feed_110 (w' := wd_Mo cs mo mr (fun _ => none) mf_33 (va_up md_33 1 (upd (md_33 1) (mf_33 2).toNatClampNeg (vp_nar .byte z31))) (gMo PG hq)) (ps' := [wd_Mo cs mo mr (fun _ => none) mf_33 (va_up md_33 1 (upd (md_33 1) (mf_33 2).toNatClampNeg (vp_nar .byte z31))) (gMo PG hq), fm 13 (fPr cs hq qr QO QF QA), fm 8 (fPg cs PG)]) (sa_Mo_1 _ _ _ _ _ _ _ _) rfl (fun H locs hw => ?_)
              refine lv_aload_n S.x S.b d_Mo_feed_111 rfl (lv_at hl 1 rfl) ?_
              refine lv_dup S.x S.b d_Mo_feed_112 rfl ?_
              refine px_get S k_Mo hT hw 0 0 2 (v := .int (mf_33 2)) rfl rfl rfl (by decide) m11_80 d_Mo_feed_113 ?_
              refine lv_iconst (v := 1) S.x S.b d_Mo_feed_116 (by decide) ?_
              refine lv_iadd S.x S.b d_Mo_feed_117 ?_
              have lr32 := Int32.le_toInt (mf_33 2)
              have ur32 := Int32.toInt_lt (mf_33 2)
              refine lv_topi (fun z33 ez33 => ?_)
              have tz33 : z33.toInt = ((mf_33 2).toInt + (1 : Int) + 2147483648) % 4294967296 - 2147483648 := by rw [ez33]; exact i_add (mf_33 2) 1
              have lz33 := Int32.le_toInt z33
              have uz33 := Int32.toInt_lt z33
              try replace tz33 : z33.toInt = (mf_33 2).toInt + (1 : Int) := by omega
              refine px_put S k_Mo hT hw 0 0 2 rfl rfl (by decide) m11_80 rfl rfl rfl (Nat.le_of_ble_eq_true rfl) d_Mo_feed_118 (w' := wd_Mo cs mo mr (fun _ => none) (upd mf_33 2 z33) (va_up md_33 1 (upd (md_33 1) (mf_33 2).toNatClampNeg (vp_nar .byte z31))) (gMo PG hq)) (ps' := [wd_Mo cs mo mr (fun _ => none) (upd mf_33 2 z33) (va_up md_33 1 (upd (md_33 1) (mf_33 2).toNatClampNeg (vp_nar .byte z31))) (gMo PG hq), fm 13 (fPr cs hq qr QO QF QA), fm 8 (fPg cs PG)]) rfl rfl (fun H locs hw => ?_)
              obtain ⟨z34, ez34⟩ : ∃ y : Int32, y = x33_6 + 1 := ⟨_, rfl⟩
              have tz34 : z34.toInt = (x33_6.toInt + 1 + 2147483648) % 4294967296 - 2147483648 := by rw [ez34]; exact i_add x33_6 1
              have lz34 := Int32.le_toInt z34
              have uz34 := Int32.toInt_lt z34
              try replace tz34 : z34.toInt = x33_6.toInt + 1 := by omega
              refine lv_iinc (v := z34) (lv' := [(6, .int z34), (7, .int p2), (0, .ref mo), (1, .int p0), (2, .int p1), (3, .int p2), (4, .int p3), (5, .int p4)]) S.x S.b d_Mo_feed_121 hl (k := 7) rfl (by rw [ez34]; rfl) (by decide) rfl (fun ls hl => ?_)
              refine lv_goto (tgt := 33) S.x S.b d_Mo_feed_124 (by decide) ?_
              exact ih33 (upd mf_33 2 z33) (va_up md_33 1 (upd (md_33 1) (mf_33 2).toNatClampNeg (vp_nar .byte z31))) z34 _ _ ls (show (mf_33 3).toInt = (mf 3).toInt from by first | exact k33_0 | omega) (show (mf_33 10).toInt = (mf 10).toInt from by first | exact k33_1 | omega) (show z33.toInt = (mf 2).toInt + z34.toInt from by first | exact oz_c825822485 k33_2 tz33 tz34 | omega) (show (mf 2).toInt + 20 ≤ 2048 from by first | exact k33_3 | omega) (show 0 ≤ z34.toInt from by first | exact oz_5caae207a3 tz34 nc5 | omega) (show z34.toInt ≤ 20 from by first | exact oz_9b6247bf60 tz34 nc7 | omega) (show (mf_33 0).toInt = 0 from by first | exact k33_6 | omega) (show K_mo_feed_33 p0 p1 p2 p3 p4 mf md (upd mf_33 2 z33) (va_up md_33 1 (upd (md_33 1) (mf_33 2).toNatClampNeg (vp_nar .byte z31))) z34 from (fun y_f0 y_f1 k hE => k33_7 y_f0 y_f1 (k + 1) (Or.inr (Or.inl ⟨rfl, x33_6, rfl, rfl, rfl, rfl, rfl, Or.inr ⟨nc1, Or.inl ⟨nc3, Or.inl ⟨nc5, Or.inr ⟨nc7, z27, ez27, z28, ez28, z29, ez29, z30, ez30, z31, ez31, z33, ez33, z34, ez34, hE⟩⟩⟩⟩⟩)))) (show 20 - z34.toInt < (n_33 : Int) from by first | exact oz_ac4816bc14 hm tz34 | omega) hw (lv_sub hl [2, 3, 4, 5, 6, 7, 0] rfl)
          · have nc5 : ¬ (8 : Int) ≤ x33_6.toInt := mt (i_le (x := 8) (y := x33_6)).mpr c5
            refine lv_iload_n S.x S.b d_Mo_feed_57 rfl (lv_at hl 2 rfl) ?_
            refine lv_goto (tgt := 86) S.x S.b d_Mo_feed_58 (by decide) ?_
            refine lv_istore (lv' := [(7, .int p1), (0, .ref mo), (1, .int p0), (2, .int p1), (3, .int p2), (4, .int p3), (5, .int p4), (6, .int x33_6)]) S.x S.b d_Mo_feed_86 hl (by decide) rfl (fun ls hl => ?_)
            refine lv_aload_n S.x S.b d_Mo_feed_88 rfl (lv_at hl 1 rfl) ?_
            refine px_get S k_Mo hT hw 0 0 1 (v := .ref (mr 1)) rfl rfl rfl (by decide) m11_79 d_Mo_feed_89 ?_
            refine lv_aload_n S.x S.b d_Mo_feed_92 rfl (lv_at hl 1 rfl) ?_
            refine px_get S k_Mo hT hw 0 0 2 (v := .int (mf_33 2)) rfl rfl rfl (by decide) m11_80 d_Mo_feed_93 ?_
            refine lv_iload S.x S.b d_Mo_feed_96 (lv_at hl 0 rfl) ?_
            refine lv_bipush (v := 24) S.x S.b d_Mo_feed_98 (by decide) ?_
            refine lv_bipush (v := 8) S.x S.b d_Mo_feed_100 (by decide) ?_
            refine lv_iload S.x S.b d_Mo_feed_102 (lv_at hl 7 rfl) ?_
            refine lv_iconst (v := 4) S.x S.b d_Mo_feed_104 (by decide) ?_
            refine lv_irem S.x S.b d_Mo_feed_105 (by decide) ?_
            refine lv_topi (fun z35 ez35 => ?_)
            have lz35 := Int32.le_toInt z35
            have uz35 := Int32.toInt_lt z35
            refine lv_imul S.x S.b d_Mo_feed_106 ?_
            refine lv_topi (fun z36 ez36 => ?_)
            have lz36 := Int32.le_toInt z36
            have uz36 := Int32.toInt_lt z36
            have tz36 : -2147483648 ≤ 8 * z35.toInt → 8 * z35.toInt < 2147483648 → z36.toInt = 8 * z35.toInt := by rw [ez36]; exact i_mulc 8 z35 (by decide)
            try replace tz36 : z36.toInt = 8 * z35.toInt := by omega
            refine lv_isub S.x S.b d_Mo_feed_107 ?_
            refine lv_topi (fun z37 ez37 => ?_)
            have tz37 : z37.toInt = ((24 : Int) - z36.toInt + 2147483648) % 4294967296 - 2147483648 := by rw [ez37]; exact i_sub 24 z36
            have lz37 := Int32.le_toInt z37
            have uz37 := Int32.toInt_lt z37
            try replace tz37 : z37.toInt = (24 : Int) - z36.toInt := by omega
            refine lv_ishr S.x S.b d_Mo_feed_108 ?_
            refine lv_topi (fun z38 ez38 => ?_)
            have lz38 := Int32.le_toInt z38
            have uz38 := Int32.toInt_lt z38
            refine lv_i2b S.x S.b d_Mo_feed_109 rfl ?_
            refine lv_topi (fun z39 ez39 => ?_)
            have lz39 := Int32.le_toInt z39
            have uz39 := Int32.toInt_lt z39
            refine px_bast S hT hw 0 1 (n := 2048) (f := (md_33 1)) (x := (mf_33 2)) (y := z39) rfl (ga_Mo_1 _ _ _ _ _ _ _) (vp_in_iff.mpr (by constructor <;> omega)) d_Mo_feed_110 (w' := wd_Mo cs mo mr (fun _ => none) mf_33 (va_up md_33 1 (upd (md_33 1) (mf_33 2).toNatClampNeg (vp_nar .byte z39))) (gMo PG hq)) (ps' := [wd_Mo cs mo mr (fun _ => none) mf_33 (va_up md_33 1 (upd (md_33 1) (mf_33 2).toNatClampNeg (vp_nar .byte z39))) (gMo PG hq), fm 13 (fPr cs hq qr QO QF QA), fm 8 (fPg cs PG)]) (sa_Mo_1 _ _ _ _ _ _ _ _) rfl (fun H locs hw => ?_)
            refine lv_aload_n S.x S.b d_Mo_feed_111 rfl (lv_at hl 1 rfl) ?_
            refine lv_dup S.x S.b d_Mo_feed_112 rfl ?_
            refine px_get S k_Mo hT hw 0 0 2 (v := .int (mf_33 2)) rfl rfl rfl (by decide) m11_80 d_Mo_feed_113 ?_
            refine lv_iconst (v := 1) S.x S.b d_Mo_feed_116 (by decide) ?_
            refine lv_iadd S.x S.b d_Mo_feed_117 ?_
            have lr40 := Int32.le_toInt (mf_33 2)
            have ur40 := Int32.toInt_lt (mf_33 2)
            refine lv_topi (fun z41 ez41 => ?_)
            have tz41 : z41.toInt = ((mf_33 2).toInt + (1 : Int) + 2147483648) % 4294967296 - 2147483648 := by rw [ez41]; exact i_add (mf_33 2) 1
            have lz41 := Int32.le_toInt z41
            have uz41 := Int32.toInt_lt z41
            try replace tz41 : z41.toInt = (mf_33 2).toInt + (1 : Int) := by omega
            refine px_put S k_Mo hT hw 0 0 2 rfl rfl (by decide) m11_80 rfl rfl rfl (Nat.le_of_ble_eq_true rfl) d_Mo_feed_118 (w' := wd_Mo cs mo mr (fun _ => none) (upd mf_33 2 z41) (va_up md_33 1 (upd (md_33 1) (mf_33 2).toNatClampNeg (vp_nar .byte z39))) (gMo PG hq)) (ps' := [wd_Mo cs mo mr (fun _ => none) (upd mf_33 2 z41) (va_up md_33 1 (upd (md_33 1) (mf_33 2).toNatClampNeg (vp_nar .byte z39))) (gMo PG hq), fm 13 (fPr cs hq qr QO QF QA), fm 8 (fPg cs PG)]) rfl rfl (fun H locs hw => ?_)
            obtain ⟨z42, ez42⟩ : ∃ y : Int32, y = x33_6 + 1 := ⟨_, rfl⟩
            have tz42 : z42.toInt = (x33_6.toInt + 1 + 2147483648) % 4294967296 - 2147483648 := by rw [ez42]; exact i_add x33_6 1
            have lz42 := Int32.le_toInt z42
            have uz42 := Int32.toInt_lt z42
            try replace tz42 : z42.toInt = x33_6.toInt + 1 := by omega
            refine lv_iinc (v := z42) (lv' := [(6, .int z42), (7, .int p1), (0, .ref mo), (1, .int p0), (2, .int p1), (3, .int p2), (4, .int p3), (5, .int p4)]) S.x S.b d_Mo_feed_121 hl (k := 7) rfl (by rw [ez42]; rfl) (by decide) rfl (fun ls hl => ?_)
            refine lv_goto (tgt := 33) S.x S.b d_Mo_feed_124 (by decide) ?_
            exact ih33 (upd mf_33 2 z41) (va_up md_33 1 (upd (md_33 1) (mf_33 2).toNatClampNeg (vp_nar .byte z39))) z42 _ _ ls (show (mf_33 3).toInt = (mf 3).toInt from by first | exact k33_0 | omega) (show (mf_33 10).toInt = (mf 10).toInt from by first | exact k33_1 | omega) (show z41.toInt = (mf 2).toInt + z42.toInt from by first | exact oz_c825822485 k33_2 tz41 tz42 | omega) (show (mf 2).toInt + 20 ≤ 2048 from by first | exact k33_3 | omega) (show 0 ≤ z42.toInt from by first | exact oz_98bba6c895 tz42 nc3 | omega) (show z42.toInt ≤ 20 from by first | exact oz_da72bd3676 tz42 nc5 | omega) (show (mf_33 0).toInt = 0 from by first | exact k33_6 | omega) (show K_mo_feed_33 p0 p1 p2 p3 p4 mf md (upd mf_33 2 z41) (va_up md_33 1 (upd (md_33 1) (mf_33 2).toNatClampNeg (vp_nar .byte z39))) z42 from (fun y_f0 y_f1 k hE => k33_7 y_f0 y_f1 (k + 1) (Or.inr (Or.inl ⟨rfl, x33_6, rfl, rfl, rfl, rfl, rfl, Or.inr ⟨nc1, Or.inl ⟨nc3, Or.inr ⟨nc5, z35, ez35, z36, ez36, z37, ez37, z38, ez38, z39, ez39, z41, ez41, z42, ez42, hE⟩⟩⟩⟩)))) (show 20 - z42.toInt < (n_33 : Int) from by first | exact oz_ac4816bc14 hm tz42 | omega) hw (lv_sub hl [2, 3, 4, 5, 6, 7, 0] rfl)
        · have nc3 : ¬ (4 : Int) ≤ x33_6.toInt := mt (i_le (x := 4) (y := x33_6)).mpr c3
          refine lv_iload_n S.x S.b d_Mo_feed_46 rfl (lv_at hl 1 rfl) ?_
          refine lv_goto (tgt := 86) S.x S.b d_Mo_feed_47 (by decide) ?_
          refine lv_istore (lv' := [(7, .int p0), (0, .ref mo), (1, .int p0), (2, .int p1), (3, .int p2), (4, .int p3), (5, .int p4), (6, .int x33_6)]) S.x S.b d_Mo_feed_86 hl (by decide) rfl (fun ls hl => ?_)
          refine lv_aload_n S.x S.b d_Mo_feed_88 rfl (lv_at hl 1 rfl) ?_
          refine px_get S k_Mo hT hw 0 0 1 (v := .ref (mr 1)) rfl rfl rfl (by decide) m11_79 d_Mo_feed_89 ?_
          refine lv_aload_n S.x S.b d_Mo_feed_92 rfl (lv_at hl 1 rfl) ?_
          refine px_get S k_Mo hT hw 0 0 2 (v := .int (mf_33 2)) rfl rfl rfl (by decide) m11_80 d_Mo_feed_93 ?_
          refine lv_iload S.x S.b d_Mo_feed_96 (lv_at hl 0 rfl) ?_
          refine lv_bipush (v := 24) S.x S.b d_Mo_feed_98 (by decide) ?_
          refine lv_bipush (v := 8) S.x S.b d_Mo_feed_100 (by decide) ?_
          refine lv_iload S.x S.b d_Mo_feed_102 (lv_at hl 7 rfl) ?_
          refine lv_iconst (v := 4) S.x S.b d_Mo_feed_104 (by decide) ?_
          refine lv_irem S.x S.b d_Mo_feed_105 (by decide) ?_
          refine lv_topi (fun z43 ez43 => ?_)
          have lz43 := Int32.le_toInt z43
          have uz43 := Int32.toInt_lt z43
          refine lv_imul S.x S.b d_Mo_feed_106 ?_
          refine lv_topi (fun z44 ez44 => ?_)
          have lz44 := Int32.le_toInt z44
          have uz44 := Int32.toInt_lt z44
          have tz44 : -2147483648 ≤ 8 * z43.toInt → 8 * z43.toInt < 2147483648 → z44.toInt = 8 * z43.toInt := by rw [ez44]; exact i_mulc 8 z43 (by decide)
          try replace tz44 : z44.toInt = 8 * z43.toInt := by omega
          refine lv_isub S.x S.b d_Mo_feed_107 ?_
          refine lv_topi (fun z45 ez45 => ?_)
          have tz45 : z45.toInt = ((24 : Int) - z44.toInt + 2147483648) % 4294967296 - 2147483648 := by rw [ez45]; exact i_sub 24 z44
          have lz45 := Int32.le_toInt z45
          have uz45 := Int32.toInt_lt z45
          try replace tz45 : z45.toInt = (24 : Int) - z44.toInt := by omega
          refine lv_ishr S.x S.b d_Mo_feed_108 ?_
          refine lv_topi (fun z46 ez46 => ?_)
          have lz46 := Int32.le_toInt z46
          have uz46 := Int32.toInt_lt z46
          refine lv_i2b S.x S.b d_Mo_feed_109 rfl ?_
          refine lv_topi (fun z47 ez47 => ?_)
          have lz47 := Int32.le_toInt z47
          have uz47 := Int32.toInt_lt z47
          refine px_bast S hT hw 0 1 (n := 2048) (f := (md_33 1)) (x := (mf_33 2)) (y := z47) rfl (ga_Mo_1 _ _ _ _ _ _ _) (vp_in_iff.mpr (by constructor <;> omega)) d_Mo_feed_110 (w' := wd_Mo cs mo mr (fun _ => none) mf_33 (va_up md_33 1 (upd (md_33 1) (mf_33 2).toNatClampNeg (vp_nar .byte z47))) (gMo PG hq)) (ps' := [wd_Mo cs mo mr (fun _ => none) mf_33 (va_up md_33 1 (upd (md_33 1) (mf_33 2).toNatClampNeg (vp_nar .byte z47))) (gMo PG hq), fm 13 (fPr cs hq qr QO QF QA), fm 8 (fPg cs PG)]) (sa_Mo_1 _ _ _ _ _ _ _ _) rfl (fun H locs hw => ?_)
          refine lv_aload_n S.x S.b d_Mo_feed_111 rfl (lv_at hl 1 rfl) ?_
          refine lv_dup S.x S.b d_Mo_feed_112 rfl ?_
          refine px_get S k_Mo hT hw 0 0 2 (v := .int (mf_33 2)) rfl rfl rfl (by decide) m11_80 d_Mo_feed_113 ?_
          refine lv_iconst (v := 1) S.x S.b d_Mo_feed_116 (by decide) ?_
          refine lv_iadd S.x S.b d_Mo_feed_117 ?_
          have lr48 := Int32.le_toInt (mf_33 2)
          have ur48 := Int32.toInt_lt (mf_33 2)
          refine lv_topi (fun z49 ez49 => ?_)
          have tz49 : z49.toInt = ((mf_33 2).toInt + (1 : Int) + 2147483648) % 4294967296 - 2147483648 := by rw [ez49]; exact i_add (mf_33 2) 1
          have lz49 := Int32.le_toInt z49
          have uz49 := Int32.toInt_lt z49
          try replace tz49 : z49.toInt = (mf_33 2).toInt + (1 : Int) := by omega
          refine px_put S k_Mo hT hw 0 0 2 rfl rfl (by decide) m11_80 rfl rfl rfl (Nat.le_of_ble_eq_true rfl) d_Mo_feed_118 (w' := wd_Mo cs mo mr (fun _ => none) (upd mf_33 2 z49) (va_up md_33 1 (upd (md_33 1) (mf_33 2).toNatClampNeg (vp_nar .byte z47))) (gMo PG hq)) (ps' := [wd_Mo cs mo mr (fun _ => none) (upd mf_33 2 z49) (va_up md_33 1 (upd (md_33 1) (mf_33 2).toNatClampNeg (vp_nar .byte z47))) (gMo PG hq), fm 13 (fPr cs hq qr QO QF QA), fm 8 (fPg cs PG)]) rfl rfl (fun H locs hw => ?_)
          obtain ⟨z50, ez50⟩ : ∃ y : Int32, y = x33_6 + 1 := ⟨_, rfl⟩
          have tz50 : z50.toInt = (x33_6.toInt + 1 + 2147483648) % 4294967296 - 2147483648 := by rw [ez50]; exact i_add x33_6 1
          have lz50 := Int32.le_toInt z50
          have uz50 := Int32.toInt_lt z50
          try replace tz50 : z50.toInt = x33_6.toInt + 1 := by omega
          refine lv_iinc (v := z50) (lv' := [(6, .int z50), (7, .int p0), (0, .ref mo), (1, .int p0), (2, .int p1), (3, .int p2), (4, .int p3), (5, .int p4)]) S.x S.b d_Mo_feed_121 hl (k := 7) rfl (by rw [ez50]; rfl) (by decide) rfl (fun ls hl => ?_)
          refine lv_goto (tgt := 33) S.x S.b d_Mo_feed_124 (by decide) ?_
          exact ih33 (upd mf_33 2 z49) (va_up md_33 1 (upd (md_33 1) (mf_33 2).toNatClampNeg (vp_nar .byte z47))) z50 _ _ ls (show (mf_33 3).toInt = (mf 3).toInt from by first | exact k33_0 | omega) (show (mf_33 10).toInt = (mf 10).toInt from by first | exact k33_1 | omega) (show z49.toInt = (mf 2).toInt + z50.toInt from by first | exact oz_c825822485 k33_2 tz49 tz50 | omega) (show (mf 2).toInt + 20 ≤ 2048 from by first | exact k33_3 | omega) (show 0 ≤ z50.toInt from by first | exact oz_ae613611c0 tz50 k33_4 | omega) (show z50.toInt ≤ 20 from by first | exact oz_2e13a9180d tz50 nc3 | omega) (show (mf_33 0).toInt = 0 from by first | exact k33_6 | omega) (show K_mo_feed_33 p0 p1 p2 p3 p4 mf md (upd mf_33 2 z49) (va_up md_33 1 (upd (md_33 1) (mf_33 2).toNatClampNeg (vp_nar .byte z47))) z50 from (fun y_f0 y_f1 k hE => k33_7 y_f0 y_f1 (k + 1) (Or.inr (Or.inl ⟨rfl, x33_6, rfl, rfl, rfl, rfl, rfl, Or.inr ⟨nc1, Or.inr ⟨nc3, z43, ez43, z44, ez44, z45, ez45, z46, ez46, z47, ez47, z49, ez49, z50, ez50, hE⟩⟩⟩)))) (show 20 - z50.toInt < (n_33 : Int) from by first | exact oz_ac4816bc14 hm tz50 | omega) hw (lv_sub hl [2, 3, 4, 5, 6, 7, 0] rfl)
  refine lv_aload_n S.x S.b d_Mo_feed_0 rfl (lv_at hl 0 rfl) ?_
  refine lv_aload_n S.x S.b d_Mo_feed_1 rfl (lv_at hl 0 rfl) ?_
  refine px_get S k_Mo hT hw 0 0 2 (v := .int (mf 2)) rfl rfl rfl (by decide) m11_80 d_Mo_feed_2 ?_
  refine lv_bipush (v := 20) S.x S.b d_Mo_feed_5 (by decide) ?_
  refine lv_iadd S.x S.b d_Mo_feed_7 ?_
  have lr51 := Int32.le_toInt (mf 2)
  have ur51 := Int32.toInt_lt (mf 2)
  refine lv_topi (fun z52 ez52 => ?_)
  have tz52 : z52.toInt = ((mf 2).toInt + (20 : Int) + 2147483648) % 4294967296 - 2147483648 := by rw [ez52]; exact i_add (mf 2) 20
  have lz52 := Int32.le_toInt z52
  have uz52 := Int32.toInt_lt z52
  try replace tz52 : z52.toInt = (mf 2).toInt + (20 : Int) := by omega
  refine lv_sipush (v := 2048) S.x S.b d_Mo_feed_8 (by decide) ?_
  refine lv_icmp_le (tgt := 18) S.x S.b d_Mo_feed_11 (by decide) (fun c53 => ?_) (fun c53 => ?_)
  · have nc53 : z52.toInt ≤ (2048 : Int) := (i_le (x := z52) (y := 2048)).mp c53
    refine lv_iconst (v := 0) S.x S.b d_Mo_feed_18 (by decide) ?_
    refine px_put S k_Mo hT hw 0 0 0 rfl rfl (by decide) m11_78 rfl rfl rfl (Nat.le_of_ble_eq_true rfl) d_Mo_feed_19 (w' := wd_Mo cs mo mr (fun _ => none) (upd mf 0 0) md (gMo PG hq)) (ps' := [wd_Mo cs mo mr (fun _ => none) (upd mf 0 0) md (gMo PG hq), fm 13 (fPr cs hq qr QO QF QA), fm 8 (fPg cs PG)]) rfl rfl (fun H locs hw => ?_)
    refine lv_aload_n S.x S.b d_Mo_feed_22 rfl (lv_at hl 0 rfl) ?_
    refine px_get S k_Mo hT hw 0 0 0 (v := .int 0) rfl rfl rfl (by decide) m11_78 d_Mo_feed_23 ?_
    refine lv_if_le (tgt := 30) S.x S.b d_Mo_feed_26 (by decide) (fun c55 => ?_) (fun c55 => ?_)
    ·
      refine lv_iconst (v := 0) S.x S.b d_Mo_feed_30 (by decide) ?_
      refine lv_istore (lv' := [(6, .int 0), (0, .ref mo), (1, .int p0), (2, .int p1), (3, .int p2), (4, .int p3), (5, .int p4)]) S.x S.b d_Mo_feed_31 hl (by decide) rfl (fun ls hl => ?_)
      exact J33 ((20 - (0 : Int)).toNat + 1) (upd mf 0 0) md (0 : Int32) _ _ ls (show (mf 3).toInt = (mf 3).toInt from rfl) (show (mf 10).toInt = (mf 10).toInt from rfl) (show (mf 2).toInt = (mf 2).toInt + (0 : Int) from by first | exact oz_efca365a44 | omega) (show (mf 2).toInt + 20 ≤ 2048 from by first | exact oz_d0b413ca20 tz52 nc53 | omega) (show 0 ≤ (0 : Int) from by first | exact oz_5a341f00aa | omega) (show (0 : Int) ≤ 20 from by first | exact oz_e661c21f60 | omega) (show (0 : Int) = 0 from by first | exact oz_7d1a308c7e | omega) (show K_mo_feed_33 p0 p1 p2 p3 p4 mf md (upd mf 0 0) md 0 from (fun y_f0 y_f1 k hE => Exists.intro (k + 1) (Or.inl ⟨rfl, z52, ez52, Or.inl ⟨nc53, hE⟩⟩))) (show 20 - (0 : Int) < ((((20 - (0 : Int)).toNat + 1 : Nat) : Int) : Int) from by first | exact oz_natlt | omega) hw (lv_sub hl [1, 2, 3, 4, 5, 6, 0] rfl)
    · exact absurd c55 (by decide)
  · have nc53 : ¬ z52.toInt ≤ (2048 : Int) := mt (i_le (x := z52) (y := 2048)).mpr c53
    refine lv_iconst (v := 1) S.x S.b d_Mo_feed_14 (by decide) ?_
    refine lv_goto (tgt := 19) S.x S.b d_Mo_feed_15 (by decide) ?_
    refine px_put S k_Mo hT hw 0 0 0 rfl rfl (by decide) m11_78 rfl rfl rfl (Nat.le_of_ble_eq_true rfl) d_Mo_feed_19 (w' := wd_Mo cs mo mr (fun _ => none) (upd mf 0 1) md (gMo PG hq)) (ps' := [wd_Mo cs mo mr (fun _ => none) (upd mf 0 1) md (gMo PG hq), fm 13 (fPr cs hq qr QO QF QA), fm 8 (fPg cs PG)]) rfl rfl (fun H locs hw => ?_)
    refine lv_aload_n S.x S.b d_Mo_feed_22 rfl (lv_at hl 0 rfl) ?_
    refine px_get S k_Mo hT hw 0 0 0 (v := .int 1) rfl rfl rfl (by decide) m11_78 d_Mo_feed_23 ?_
    refine lv_if_le (tgt := 30) S.x S.b d_Mo_feed_26 (by decide) (fun c56 => ?_) (fun c56 => ?_)
    · exact absurd c56 (by decide)
    ·
      exact px_vret S hr hlk hAe hw (Nat.le_of_ble_eq_true rfl) (Nat.le_of_ble_eq_true rfl) (⟨(upd mf 0 1), md, rfl, (show (mf 3).toInt = (mf 3).toInt from rfl), (show (mf 10).toInt = (mf 10).toInt from rfl), (show 0 ≤ (mf 2).toInt from by first | exact g0 | omega), (show (mf 2).toInt ≤ 2048 from by first | exact g1 | omega), (show ((mf 2).toInt + 20 ≤ 2048 ∧ (1 : Int) = 0 ∧ (mf 2).toInt = (mf 2).toInt + 20) ∨ (2048 < (mf 2).toInt + 20 ∧ (1 : Int) = 1 ∧ (mf 2).toInt = (mf 2).toInt) from by omega), (show R_mo_feed p0 p1 p2 p3 p4 mf md (upd mf 0 1) md from (Exists.intro 1 (Or.inl ⟨rfl, z52, ez52, Or.inr ⟨nc53, rfl, rfl⟩⟩)))⟩) d_Mo_feed_29
abbrev b_Mo_end : ByteArray := prog_14_method_4_code
def y_Mo_end : MethodName := ⟨"HomeSystemModel", "end", "(I)V"⟩
theorem d_Mo_end_0 : decode b_Mo_end 0 = .ok (.aload_n 0, 1) := by decide +kernel
theorem d_Mo_end_1 : decode b_Mo_end 1 = .ok (.iload_n 1, 1) := by decide +kernel
theorem d_Mo_end_2 : decode b_Mo_end 2 = .ok (.ifCond .lt 11, 3) := by decide +kernel
theorem d_Mo_end_5 : decode b_Mo_end 5 = .ok (.iload_n 1, 1) := by decide +kernel
theorem d_Mo_end_6 : decode b_Mo_end 6 = .ok (.aload_n 0, 1) := by decide +kernel
theorem d_Mo_end_7 : decode b_Mo_end 7 = .ok (.getfield 38, 3) := by decide +kernel
theorem d_Mo_end_10 : decode b_Mo_end 10 = .ok (.if_icmp .le 7, 3) := by decide +kernel
theorem d_Mo_end_13 : decode b_Mo_end 13 = .ok (.iconst 1, 1) := by decide +kernel
theorem d_Mo_end_14 : decode b_Mo_end 14 = .ok (.goto 4, 3) := by decide +kernel
theorem d_Mo_end_17 : decode b_Mo_end 17 = .ok (.iconst 0, 1) := by decide +kernel
theorem d_Mo_end_18 : decode b_Mo_end 18 = .ok (.putfield 35, 3) := by decide +kernel
theorem d_Mo_end_21 : decode b_Mo_end 21 = .ok (.aload_n 0, 1) := by decide +kernel
theorem d_Mo_end_22 : decode b_Mo_end 22 = .ok (.aload_n 0, 1) := by decide +kernel
theorem d_Mo_end_23 : decode b_Mo_end 23 = .ok (.getfield 35, 3) := by decide +kernel
theorem d_Mo_end_26 : decode b_Mo_end 26 = .ok (.ifCond .le 10, 3) := by decide +kernel
theorem d_Mo_end_29 : decode b_Mo_end 29 = .ok (.aload_n 0, 1) := by decide +kernel
theorem d_Mo_end_30 : decode b_Mo_end 30 = .ok (.getfield 38, 3) := by decide +kernel
theorem d_Mo_end_33 : decode b_Mo_end 33 = .ok (.goto 4, 3) := by decide +kernel
theorem d_Mo_end_36 : decode b_Mo_end 36 = .ok (.iload_n 1, 1) := by decide +kernel
theorem d_Mo_end_37 : decode b_Mo_end 37 = .ok (.putfield 38, 3) := by decide +kernel
theorem d_Mo_end_40 : decode b_Mo_end 40 = .ok (.return_, 1) := by decide +kernel
theorem q_Mo_end : px_y y_Mo_end 1 := by unfold px_y; decide +kernel
set_option maxHeartbeats 4000000 in
set_option maxRecDepth 100000 in
theorem c_mo_end (l : Launch) (D : va_G) (cs : Nat → ClassId) (mo : Nat) (mr : Nat → Nat) (md : Nat → Nat → Int32) (mf : Nat → Int32) (hq : Nat → Nat) (qr : Nat → Nat → Nat) (QO : Nat → Option Nat) (QF : Nat → Nat → Int32) (QA : Nat → Nat → Nat → Int32) (PG : Nat → Pgs) (p0 : Int32)  (g0 : 0 ≤ (mf 2).toInt) (g1 : (mf 2).toInt ≤ 2048) (hpn : PrN QF) (hpg : PgA PG) : MetV l y_Mo_end b_Mo_end 2 D cs 0 0 (0) (0) [.ref mo, .int p0] [wd_Mo cs mo mr (fun _ => none) mf md (gMo PG hq), fm 13 (fPr cs hq qr QO QF QA), fm 8 (fPg cs PG)] (fun _ => True) (fun ps => ∃ (mf' : Nat → Int32), (ps = [wd_Mo cs mo mr (fun _ => none) mf' md (gMo PG hq), fm 13 (fPr cs hq qr QO QF QA), fm 8 (fPg cs PG)]) ∧ ((mf' 3).toInt = (mf 3).toInt) ∧ ((mf' 10).toInt = (mf 10).toInt) ∧ (0 ≤ (mf' 2).toInt) ∧ ((mf' 2).toInt ≤ 2048) ∧ (((mf' 0).toInt = 0 ∧ 0 ≤ p0.toInt ∧ p0.toInt ≤ (mf 2).toInt ∧ (mf' 2).toInt = p0.toInt) ∨ ((mf' 0).toInt = 1 ∧ (p0.toInt < 0 ∨ (mf 2).toInt < p0.toInt) ∧ (mf' 2).toInt = (mf 2).toInt))) := by
  refine px_enter (by decide) (Nat.le_of_ble_eq_true rfl) ?_
  intro p e s m below meth c A ls hAe S hr hlk hnm hA hT hX hw hl
  have hl : lv_has ls 2 [(0, .ref mo), (1, .int p0)] := hl
  have lp0 := Int32.le_toInt p0
  have up0 := Int32.toInt_lt p0
  have cst0 : (0 : Int32).toInt = 0 := rfl
  have cst1 : (1 : Int32).toInt = 1 := rfl
  refine lv_aload_n S.x S.b d_Mo_end_0 rfl (lv_at hl 0 rfl) ?_
  refine lv_iload_n S.x S.b d_Mo_end_1 rfl (lv_at hl 1 rfl) ?_
  refine lv_if_lt (tgt := 13) S.x S.b d_Mo_end_2 (by decide) (fun c1 => ?_) (fun c1 => ?_)
  · have nc1 : p0.toInt < (0 : Int) := (i_lt (x := p0) (y := 0)).mp c1
    refine lv_iconst (v := 1) S.x S.b d_Mo_end_13 (by decide) ?_
    refine lv_goto (tgt := 18) S.x S.b d_Mo_end_14 (by decide) ?_
    refine px_put S k_Mo hT hw 0 0 0 rfl rfl (by decide) m11_78 rfl rfl rfl (Nat.le_of_ble_eq_true rfl) d_Mo_end_18 (w' := wd_Mo cs mo mr (fun _ => none) (upd mf 0 1) md (gMo PG hq)) (ps' := [wd_Mo cs mo mr (fun _ => none) (upd mf 0 1) md (gMo PG hq), fm 13 (fPr cs hq qr QO QF QA), fm 8 (fPg cs PG)]) rfl rfl (fun H locs hw => ?_)
    refine lv_aload_n S.x S.b d_Mo_end_21 rfl (lv_at hl 0 rfl) ?_
    refine lv_aload_n S.x S.b d_Mo_end_22 rfl (lv_at hl 0 rfl) ?_
    refine px_get S k_Mo hT hw 0 0 0 (v := .int 1) rfl rfl rfl (by decide) m11_78 d_Mo_end_23 ?_
    refine lv_if_le (tgt := 36) S.x S.b d_Mo_end_26 (by decide) (fun c3 => ?_) (fun c3 => ?_)
    · exact absurd c3 (by decide)
    ·
      refine lv_aload_n S.x S.b d_Mo_end_29 rfl (lv_at hl 0 rfl) ?_
      refine px_get S k_Mo hT hw 0 0 2 (v := .int (mf 2)) rfl rfl rfl (by decide) m11_80 d_Mo_end_30 ?_
      refine lv_goto (tgt := 37) S.x S.b d_Mo_end_33 (by decide) ?_
      refine px_put S k_Mo hT hw 0 0 2 rfl rfl (by decide) m11_80 rfl rfl rfl (Nat.le_of_ble_eq_true rfl) d_Mo_end_37 (w' := wd_Mo cs mo mr (fun _ => none) (upd (upd mf 0 1) 2 (mf 2)) md (gMo PG hq)) (ps' := [wd_Mo cs mo mr (fun _ => none) (upd (upd mf 0 1) 2 (mf 2)) md (gMo PG hq), fm 13 (fPr cs hq qr QO QF QA), fm 8 (fPg cs PG)]) rfl rfl (fun H locs hw => ?_)
      exact px_vret S hr hlk hAe hw (Nat.le_of_ble_eq_true rfl) (Nat.le_of_ble_eq_true rfl) (⟨(upd (upd mf 0 1) 2 (mf 2)), rfl, (show (mf 3).toInt = (mf 3).toInt from rfl), (show (mf 10).toInt = (mf 10).toInt from rfl), (show 0 ≤ (mf 2).toInt from by first | exact g0 | omega), (show (mf 2).toInt ≤ 2048 from by first | exact g1 | omega), (show ((1 : Int) = 0 ∧ 0 ≤ p0.toInt ∧ p0.toInt ≤ (mf 2).toInt ∧ (mf 2).toInt = p0.toInt) ∨ ((1 : Int) = 1 ∧ (p0.toInt < 0 ∨ (mf 2).toInt < p0.toInt) ∧ (mf 2).toInt = (mf 2).toInt) from by omega)⟩) d_Mo_end_40
  · have nc1 : ¬ p0.toInt < (0 : Int) := mt (i_lt (x := p0) (y := 0)).mpr c1
    refine lv_iload_n S.x S.b d_Mo_end_5 rfl (lv_at hl 1 rfl) ?_
    refine lv_aload_n S.x S.b d_Mo_end_6 rfl (lv_at hl 0 rfl) ?_
    refine px_get S k_Mo hT hw 0 0 2 (v := .int (mf 2)) rfl rfl rfl (by decide) m11_80 d_Mo_end_7 ?_
    refine lv_icmp_le (tgt := 17) S.x S.b d_Mo_end_10 (by decide) (fun c4 => ?_) (fun c4 => ?_)
    · have nc4 : p0.toInt ≤ (mf 2).toInt := (i_le (x := p0) (y := (mf 2))).mp c4
      refine lv_iconst (v := 0) S.x S.b d_Mo_end_17 (by decide) ?_
      refine px_put S k_Mo hT hw 0 0 0 rfl rfl (by decide) m11_78 rfl rfl rfl (Nat.le_of_ble_eq_true rfl) d_Mo_end_18 (w' := wd_Mo cs mo mr (fun _ => none) (upd mf 0 0) md (gMo PG hq)) (ps' := [wd_Mo cs mo mr (fun _ => none) (upd mf 0 0) md (gMo PG hq), fm 13 (fPr cs hq qr QO QF QA), fm 8 (fPg cs PG)]) rfl rfl (fun H locs hw => ?_)
      refine lv_aload_n S.x S.b d_Mo_end_21 rfl (lv_at hl 0 rfl) ?_
      refine lv_aload_n S.x S.b d_Mo_end_22 rfl (lv_at hl 0 rfl) ?_
      refine px_get S k_Mo hT hw 0 0 0 (v := .int 0) rfl rfl rfl (by decide) m11_78 d_Mo_end_23 ?_
      refine lv_if_le (tgt := 36) S.x S.b d_Mo_end_26 (by decide) (fun c6 => ?_) (fun c6 => ?_)
      ·
        refine lv_iload_n S.x S.b d_Mo_end_36 rfl (lv_at hl 1 rfl) ?_
        refine px_put S k_Mo hT hw 0 0 2 rfl rfl (by decide) m11_80 rfl rfl rfl (Nat.le_of_ble_eq_true rfl) d_Mo_end_37 (w' := wd_Mo cs mo mr (fun _ => none) (upd (upd mf 0 0) 2 p0) md (gMo PG hq)) (ps' := [wd_Mo cs mo mr (fun _ => none) (upd (upd mf 0 0) 2 p0) md (gMo PG hq), fm 13 (fPr cs hq qr QO QF QA), fm 8 (fPg cs PG)]) rfl rfl (fun H locs hw => ?_)
        exact px_vret S hr hlk hAe hw (Nat.le_of_ble_eq_true rfl) (Nat.le_of_ble_eq_true rfl) (⟨(upd (upd mf 0 0) 2 p0), rfl, (show (mf 3).toInt = (mf 3).toInt from rfl), (show (mf 10).toInt = (mf 10).toInt from rfl), (show 0 ≤ p0.toInt from by first | exact oz_18a5c06a28 nc1 | omega), (show p0.toInt ≤ 2048 from by first | exact oz_32ba32251b nc4 g1 | omega), (show ((0 : Int) = 0 ∧ 0 ≤ p0.toInt ∧ p0.toInt ≤ (mf 2).toInt ∧ p0.toInt = p0.toInt) ∨ ((0 : Int) = 1 ∧ (p0.toInt < 0 ∨ (mf 2).toInt < p0.toInt) ∧ p0.toInt = (mf 2).toInt) from by omega)⟩) d_Mo_end_40
      · exact absurd c6 (by decide)
    · have nc4 : ¬ p0.toInt ≤ (mf 2).toInt := mt (i_le (x := p0) (y := (mf 2))).mpr c4
      refine lv_iconst (v := 1) S.x S.b d_Mo_end_13 (by decide) ?_
      refine lv_goto (tgt := 18) S.x S.b d_Mo_end_14 (by decide) ?_
      refine px_put S k_Mo hT hw 0 0 0 rfl rfl (by decide) m11_78 rfl rfl rfl (Nat.le_of_ble_eq_true rfl) d_Mo_end_18 (w' := wd_Mo cs mo mr (fun _ => none) (upd mf 0 1) md (gMo PG hq)) (ps' := [wd_Mo cs mo mr (fun _ => none) (upd mf 0 1) md (gMo PG hq), fm 13 (fPr cs hq qr QO QF QA), fm 8 (fPg cs PG)]) rfl rfl (fun H locs hw => ?_)
      refine lv_aload_n S.x S.b d_Mo_end_21 rfl (lv_at hl 0 rfl) ?_
      refine lv_aload_n S.x S.b d_Mo_end_22 rfl (lv_at hl 0 rfl) ?_
      refine px_get S k_Mo hT hw 0 0 0 (v := .int 1) rfl rfl rfl (by decide) m11_78 d_Mo_end_23 ?_
      refine lv_if_le (tgt := 36) S.x S.b d_Mo_end_26 (by decide) (fun c7 => ?_) (fun c7 => ?_)
      · exact absurd c7 (by decide)
      ·
        refine lv_aload_n S.x S.b d_Mo_end_29 rfl (lv_at hl 0 rfl) ?_
        refine px_get S k_Mo hT hw 0 0 2 (v := .int (mf 2)) rfl rfl rfl (by decide) m11_80 d_Mo_end_30 ?_
        refine lv_goto (tgt := 37) S.x S.b d_Mo_end_33 (by decide) ?_
        refine px_put S k_Mo hT hw 0 0 2 rfl rfl (by decide) m11_80 rfl rfl rfl (Nat.le_of_ble_eq_true rfl) d_Mo_end_37 (w' := wd_Mo cs mo mr (fun _ => none) (upd (upd mf 0 1) 2 (mf 2)) md (gMo PG hq)) (ps' := [wd_Mo cs mo mr (fun _ => none) (upd (upd mf 0 1) 2 (mf 2)) md (gMo PG hq), fm 13 (fPr cs hq qr QO QF QA), fm 8 (fPg cs PG)]) rfl rfl (fun H locs hw => ?_)
        exact px_vret S hr hlk hAe hw (Nat.le_of_ble_eq_true rfl) (Nat.le_of_ble_eq_true rfl) (⟨(upd (upd mf 0 1) 2 (mf 2)), rfl, (show (mf 3).toInt = (mf 3).toInt from rfl), (show (mf 10).toInt = (mf 10).toInt from rfl), (show 0 ≤ (mf 2).toInt from by first | exact g0 | omega), (show (mf 2).toInt ≤ 2048 from by first | exact g1 | omega), (show ((1 : Int) = 0 ∧ 0 ≤ p0.toInt ∧ p0.toInt ≤ (mf 2).toInt ∧ (mf 2).toInt = p0.toInt) ∨ ((1 : Int) = 1 ∧ (p0.toInt < 0 ∨ (mf 2).toInt < p0.toInt) ∧ (mf 2).toInt = (mf 2).toInt) from by omega)⟩) d_Mo_end_40
abbrev b_Mo_place : ByteArray := prog_14_method_7_code
def y_Mo_place : MethodName := ⟨"HomeSystemModel", "place", "()I"⟩
theorem d_Mo_place_0 : decode b_Mo_place 0 = .ok (.aload_n 0, 1) := by decide +kernel
theorem d_Mo_place_1 : decode b_Mo_place 1 = .ok (.iconst 0, 1) := by decide +kernel
theorem d_Mo_place_2 : decode b_Mo_place 2 = .ok (.putfield 35, 3) := by decide +kernel
theorem d_Mo_place_5 : decode b_Mo_place 5 = .ok (.aload_n 0, 1) := by decide +kernel
theorem d_Mo_place_6 : decode b_Mo_place 6 = .ok (.getfield 52, 3) := by decide +kernel
theorem d_Mo_place_9 : decode b_Mo_place 9 = .ok (.ireturn, 1) := by decide +kernel
theorem q_Mo_place : px_y y_Mo_place 0 := by unfold px_y; decide +kernel
set_option maxHeartbeats 4000000 in
set_option maxRecDepth 100000 in
theorem c_mo_place (l : Launch) (D : va_G) (cs : Nat → ClassId) (mo : Nat) (mr : Nat → Nat) (md : Nat → Nat → Int32) (mf : Nat → Int32) (hq : Nat → Nat) (qr : Nat → Nat → Nat) (QO : Nat → Option Nat) (QF : Nat → Nat → Int32) (QA : Nat → Nat → Nat → Int32) (PG : Nat → Pgs)  (hpn : PrN QF) (hpg : PgA PG) : MetI l y_Mo_place b_Mo_place 1 (.int) D cs 0 0 (0) (0) [.ref mo] [wd_Mo cs mo mr (fun _ => none) mf md (gMo PG hq), fm 13 (fPr cs hq qr QO QF QA), fm 8 (fPg cs PG)] (fun _ => True) (fun v ps => ∃ (mf' : Nat → Int32), (ps = [wd_Mo cs mo mr (fun _ => none) mf' md (gMo PG hq), fm 13 (fPr cs hq qr QO QF QA), fm 8 (fPg cs PG)]) ∧ ((mf' 2).toInt = (mf 2).toInt) ∧ ((mf' 3).toInt = (mf 3).toInt) ∧ ((mf' 10).toInt = (mf 10).toInt)) := by
  refine px_enter (by decide) (Nat.le_of_ble_eq_true rfl) ?_
  intro p e s m below meth c A ls hAe S hr hlk hnm hA hT hX hw hl
  have hl : lv_has ls 1 [(0, .ref mo)] := hl
  have cst0 : (0 : Int32).toInt = 0 := rfl
  refine lv_aload_n S.x S.b d_Mo_place_0 rfl (lv_at hl 0 rfl) ?_
  refine lv_iconst (v := 0) S.x S.b d_Mo_place_1 (by decide) ?_
  refine px_put S k_Mo hT hw 0 0 0 rfl rfl (by decide) m11_78 rfl rfl rfl (Nat.le_of_ble_eq_true rfl) d_Mo_place_2 (w' := wd_Mo cs mo mr (fun _ => none) (upd mf 0 0) md (gMo PG hq)) (ps' := [wd_Mo cs mo mr (fun _ => none) (upd mf 0 0) md (gMo PG hq), fm 13 (fPr cs hq qr QO QF QA), fm 8 (fPg cs PG)]) rfl rfl (fun H locs hw => ?_)
  refine lv_aload_n S.x S.b d_Mo_place_5 rfl (lv_at hl 0 rfl) ?_
  refine px_get S k_Mo hT hw 0 0 3 (v := .int (mf 3)) rfl rfl rfl (by decide) m11_81 d_Mo_place_6 ?_
  exact px_iret (v := (mf 3)) S hr rfl hlk hAe hw (Nat.le_of_ble_eq_true rfl) (Nat.le_of_ble_eq_true rfl) (⟨(upd mf 0 0), rfl, (show (mf 2).toInt = (mf 2).toInt from rfl), (show (mf 3).toInt = (mf 3).toInt from rfl), (show (mf 10).toInt = (mf 10).toInt from rfl)⟩) d_Mo_place_9
abbrev b_Mo_turn : ByteArray := prog_14_method_9_code
def y_Mo_turn : MethodName := ⟨"HomeSystemModel", "turn", "(I)V"⟩
theorem d_Mo_turn_0 : decode b_Mo_turn 0 = .ok (.aload_n 0, 1) := by decide +kernel
theorem d_Mo_turn_1 : decode b_Mo_turn 1 = .ok (.iload_n 1, 1) := by decide +kernel
theorem d_Mo_turn_2 : decode b_Mo_turn 2 = .ok (.sipush 200, 3) := by decide +kernel
theorem d_Mo_turn_5 : decode b_Mo_turn 5 = .ok (.if_icmp .lt 9, 3) := by decide +kernel
theorem d_Mo_turn_8 : decode b_Mo_turn 8 = .ok (.iload_n 1, 1) := by decide +kernel
theorem d_Mo_turn_9 : decode b_Mo_turn 9 = .ok (.ldc 64, 2) := by decide +kernel
theorem d_Mo_turn_11 : decode b_Mo_turn 11 = .ok (.if_icmp .le 7, 3) := by decide +kernel
theorem d_Mo_turn_14 : decode b_Mo_turn 14 = .ok (.iconst 1, 1) := by decide +kernel
theorem d_Mo_turn_15 : decode b_Mo_turn 15 = .ok (.goto 4, 3) := by decide +kernel
theorem d_Mo_turn_18 : decode b_Mo_turn 18 = .ok (.iconst 0, 1) := by decide +kernel
theorem d_Mo_turn_19 : decode b_Mo_turn 19 = .ok (.putfield 35, 3) := by decide +kernel
theorem d_Mo_turn_22 : decode b_Mo_turn 22 = .ok (.return_, 1) := by decide +kernel
theorem q_Mo_turn : px_y y_Mo_turn 1 := by unfold px_y; decide +kernel
set_option maxHeartbeats 4000000 in
set_option maxRecDepth 100000 in
theorem c_mo_turn (l : Launch) (D : va_G) (cs : Nat → ClassId) (mo : Nat) (mr : Nat → Nat) (md : Nat → Nat → Int32) (mf : Nat → Int32) (hq : Nat → Nat) (qr : Nat → Nat → Nat) (QO : Nat → Option Nat) (QF : Nat → Nat → Int32) (QA : Nat → Nat → Nat → Int32) (PG : Nat → Pgs) (p0 : Int32)  (hpn : PrN QF) (hpg : PgA PG) : MetV l y_Mo_turn b_Mo_turn 2 D cs 0 0 (0) (0) [.ref mo, .int p0] [wd_Mo cs mo mr (fun _ => none) mf md (gMo PG hq), fm 13 (fPr cs hq qr QO QF QA), fm 8 (fPg cs PG)] (fun _ => True) (fun ps => ∃ (mf' : Nat → Int32), (ps = [wd_Mo cs mo mr (fun _ => none) mf' md (gMo PG hq), fm 13 (fPr cs hq qr QO QF QA), fm 8 (fPg cs PG)]) ∧ ((mf' 2).toInt = (mf 2).toInt) ∧ ((mf' 3).toInt = (mf 3).toInt) ∧ ((mf' 10).toInt = (mf 10).toInt) ∧ (((mf' 0).toInt = 0 ∧ 200 ≤ p0.toInt ∧ p0.toInt ≤ 100000) ∨ ((mf' 0).toInt = 1 ∧ (p0.toInt < 200 ∨ 100000 < p0.toInt)))) := by
  refine px_enter (by decide) (Nat.le_of_ble_eq_true rfl) ?_
  intro p e s m below meth c A ls hAe S hr hlk hnm hA hT hX hw hl
  have hl : lv_has ls 2 [(0, .ref mo), (1, .int p0)] := hl
  have lp0 := Int32.le_toInt p0
  have up0 := Int32.toInt_lt p0
  have cst0 : (0 : Int32).toInt = 0 := rfl
  have cst1 : (1 : Int32).toInt = 1 := rfl
  have cst200 : (200 : Int32).toInt = 200 := rfl
  refine lv_aload_n S.x S.b d_Mo_turn_0 rfl (lv_at hl 0 rfl) ?_
  refine lv_iload_n S.x S.b d_Mo_turn_1 rfl (lv_at hl 1 rfl) ?_
  refine lv_sipush (v := 200) S.x S.b d_Mo_turn_2 (by decide) ?_
  refine lv_icmp_lt (tgt := 14) S.x S.b d_Mo_turn_5 (by decide) (fun c1 => ?_) (fun c1 => ?_)
  · have nc1 : p0.toInt < (200 : Int) := (i_lt (x := p0) (y := 200)).mp c1
    refine lv_iconst (v := 1) S.x S.b d_Mo_turn_14 (by decide) ?_
    refine lv_goto (tgt := 19) S.x S.b d_Mo_turn_15 (by decide) ?_
    refine px_put S k_Mo hT hw 0 0 0 rfl rfl (by decide) m11_78 rfl rfl rfl (Nat.le_of_ble_eq_true rfl) d_Mo_turn_19 (w' := wd_Mo cs mo mr (fun _ => none) (upd mf 0 1) md (gMo PG hq)) (ps' := [wd_Mo cs mo mr (fun _ => none) (upd mf 0 1) md (gMo PG hq), fm 13 (fPr cs hq qr QO QF QA), fm 8 (fPg cs PG)]) rfl rfl (fun H locs hw => ?_)
    exact px_vret S hr hlk hAe hw (Nat.le_of_ble_eq_true rfl) (Nat.le_of_ble_eq_true rfl) (⟨(upd mf 0 1), rfl, (show (mf 2).toInt = (mf 2).toInt from rfl), (show (mf 3).toInt = (mf 3).toInt from rfl), (show (mf 10).toInt = (mf 10).toInt from rfl), (show ((1 : Int) = 0 ∧ 200 ≤ p0.toInt ∧ p0.toInt ≤ 100000) ∨ ((1 : Int) = 1 ∧ (p0.toInt < 200 ∨ 100000 < p0.toInt)) from by omega)⟩) d_Mo_turn_22
  · have nc1 : ¬ p0.toInt < (200 : Int) := mt (i_lt (x := p0) (y := 200)).mpr c1
    refine lv_iload_n S.x S.b d_Mo_turn_8 rfl (lv_at hl 1 rfl) ?_
    refine lv_ldc (v := 100000) S.x S.b S.own (S.w m13_147) d_Mo_turn_9 ?_
    refine lv_icmp_le (tgt := 18) S.x S.b d_Mo_turn_11 (by decide) (fun c3 => ?_) (fun c3 => ?_)
    · have nc3 : p0.toInt ≤ (100000 : Int) := (i_le (x := p0) (y := 100000)).mp c3
      refine lv_iconst (v := 0) S.x S.b d_Mo_turn_18 (by decide) ?_
      refine px_put S k_Mo hT hw 0 0 0 rfl rfl (by decide) m11_78 rfl rfl rfl (Nat.le_of_ble_eq_true rfl) d_Mo_turn_19 (w' := wd_Mo cs mo mr (fun _ => none) (upd mf 0 0) md (gMo PG hq)) (ps' := [wd_Mo cs mo mr (fun _ => none) (upd mf 0 0) md (gMo PG hq), fm 13 (fPr cs hq qr QO QF QA), fm 8 (fPg cs PG)]) rfl rfl (fun H locs hw => ?_)
      exact px_vret S hr hlk hAe hw (Nat.le_of_ble_eq_true rfl) (Nat.le_of_ble_eq_true rfl) (⟨(upd mf 0 0), rfl, (show (mf 2).toInt = (mf 2).toInt from rfl), (show (mf 3).toInt = (mf 3).toInt from rfl), (show (mf 10).toInt = (mf 10).toInt from rfl), (show ((0 : Int) = 0 ∧ 200 ≤ p0.toInt ∧ p0.toInt ≤ 100000) ∨ ((0 : Int) = 1 ∧ (p0.toInt < 200 ∨ 100000 < p0.toInt)) from by omega)⟩) d_Mo_turn_22
    · have nc3 : ¬ p0.toInt ≤ (100000 : Int) := mt (i_le (x := p0) (y := 100000)).mpr c3
      refine lv_iconst (v := 1) S.x S.b d_Mo_turn_14 (by decide) ?_
      refine lv_goto (tgt := 19) S.x S.b d_Mo_turn_15 (by decide) ?_
      refine px_put S k_Mo hT hw 0 0 0 rfl rfl (by decide) m11_78 rfl rfl rfl (Nat.le_of_ble_eq_true rfl) d_Mo_turn_19 (w' := wd_Mo cs mo mr (fun _ => none) (upd mf 0 1) md (gMo PG hq)) (ps' := [wd_Mo cs mo mr (fun _ => none) (upd mf 0 1) md (gMo PG hq), fm 13 (fPr cs hq qr QO QF QA), fm 8 (fPg cs PG)]) rfl rfl (fun H locs hw => ?_)
      exact px_vret S hr hlk hAe hw (Nat.le_of_ble_eq_true rfl) (Nat.le_of_ble_eq_true rfl) (⟨(upd mf 0 1), rfl, (show (mf 2).toInt = (mf 2).toInt from rfl), (show (mf 3).toInt = (mf 3).toInt from rfl), (show (mf 10).toInt = (mf 10).toInt from rfl), (show ((1 : Int) = 0 ∧ 200 ≤ p0.toInt ∧ p0.toInt ≤ 100000) ∨ ((1 : Int) = 1 ∧ (p0.toInt < 200 ∨ 100000 < p0.toInt)) from by omega)⟩) d_Mo_turn_22
abbrev b_Mo_life : ByteArray := prog_14_method_38_code
def y_Mo_life : MethodName := ⟨"HomeSystemModel", "life", "()I"⟩
theorem d_Mo_life_0 : decode b_Mo_life 0 = .ok (.aload_n 0, 1) := by decide +kernel
theorem d_Mo_life_1 : decode b_Mo_life 1 = .ok (.iconst 0, 1) := by decide +kernel
theorem d_Mo_life_2 : decode b_Mo_life 2 = .ok (.putfield 35, 3) := by decide +kernel
theorem d_Mo_life_5 : decode b_Mo_life 5 = .ok (.aload_n 0, 1) := by decide +kernel
theorem d_Mo_life_6 : decode b_Mo_life 6 = .ok (.getfield 29, 3) := by decide +kernel
theorem d_Mo_life_9 : decode b_Mo_life 9 = .ok (.ireturn, 1) := by decide +kernel
theorem q_Mo_life : px_y y_Mo_life 0 := by unfold px_y; decide +kernel
set_option maxHeartbeats 4000000 in
set_option maxRecDepth 100000 in
theorem c_mo_life (l : Launch) (D : va_G) (cs : Nat → ClassId) (mo : Nat) (mr : Nat → Nat) (md : Nat → Nat → Int32) (mf : Nat → Int32) (hq : Nat → Nat) (qr : Nat → Nat → Nat) (QO : Nat → Option Nat) (QF : Nat → Nat → Int32) (QA : Nat → Nat → Nat → Int32) (PG : Nat → Pgs)  (hpn : PrN QF) (hpg : PgA PG) : MetI l y_Mo_life b_Mo_life 1 (.int) D cs 0 0 (0) (0) [.ref mo] [wd_Mo cs mo mr (fun _ => none) mf md (gMo PG hq), fm 13 (fPr cs hq qr QO QF QA), fm 8 (fPg cs PG)] (fun _ => True) (fun v ps => ∃ (mf' : Nat → Int32), (ps = [wd_Mo cs mo mr (fun _ => none) mf' md (gMo PG hq), fm 13 (fPr cs hq qr QO QF QA), fm 8 (fPg cs PG)]) ∧ ((mf' 2).toInt = (mf 2).toInt) ∧ ((mf' 3).toInt = (mf 3).toInt) ∧ ((mf' 10).toInt = (mf 10).toInt) ∧ (v.toInt = (mf 10).toInt)) := by
  refine px_enter (by decide) (Nat.le_of_ble_eq_true rfl) ?_
  intro p e s m below meth c A ls hAe S hr hlk hnm hA hT hX hw hl
  have hl : lv_has ls 1 [(0, .ref mo)] := hl
  have cst0 : (0 : Int32).toInt = 0 := rfl
  refine lv_aload_n S.x S.b d_Mo_life_0 rfl (lv_at hl 0 rfl) ?_
  refine lv_iconst (v := 0) S.x S.b d_Mo_life_1 (by decide) ?_
  refine px_put S k_Mo hT hw 0 0 0 rfl rfl (by decide) m11_78 rfl rfl rfl (Nat.le_of_ble_eq_true rfl) d_Mo_life_2 (w' := wd_Mo cs mo mr (fun _ => none) (upd mf 0 0) md (gMo PG hq)) (ps' := [wd_Mo cs mo mr (fun _ => none) (upd mf 0 0) md (gMo PG hq), fm 13 (fPr cs hq qr QO QF QA), fm 8 (fPg cs PG)]) rfl rfl (fun H locs hw => ?_)
  refine lv_aload_n S.x S.b d_Mo_life_5 rfl (lv_at hl 0 rfl) ?_
  refine px_get S k_Mo hT hw 0 0 10 (v := .int (mf 10)) rfl rfl rfl (by decide) m11_88 d_Mo_life_6 ?_
  exact px_iret (v := (mf 10)) S hr rfl hlk hAe hw (Nat.le_of_ble_eq_true rfl) (Nat.le_of_ble_eq_true rfl) (⟨(upd mf 0 0), rfl, (show (mf 2).toInt = (mf 2).toInt from rfl), (show (mf 3).toInt = (mf 3).toInt from rfl), (show (mf 10).toInt = (mf 10).toInt from rfl), (show (mf 10).toInt = (mf 10).toInt from rfl)⟩) d_Mo_life_9
abbrev b_Mo_pages : ByteArray := prog_14_method_39_code
def y_Mo_pages : MethodName := ⟨"HomeSystemModel", "pages", "()I"⟩
theorem d_Mo_pages_0 : decode b_Mo_pages 0 = .ok (.aload_n 0, 1) := by decide +kernel
theorem d_Mo_pages_1 : decode b_Mo_pages 1 = .ok (.iconst 0, 1) := by decide +kernel
theorem d_Mo_pages_2 : decode b_Mo_pages 2 = .ok (.putfield 35, 3) := by decide +kernel
theorem d_Mo_pages_5 : decode b_Mo_pages 5 = .ok (.iconst 0, 1) := by decide +kernel
theorem d_Mo_pages_6 : decode b_Mo_pages 6 = .ok (.ireturn, 1) := by decide +kernel
theorem q_Mo_pages : px_y y_Mo_pages 0 := by unfold px_y; decide +kernel
set_option maxHeartbeats 4000000 in
set_option maxRecDepth 100000 in
theorem c_mo_pages (l : Launch) (D : va_G) (cs : Nat → ClassId) (mo : Nat) (mr : Nat → Nat) (md : Nat → Nat → Int32) (mf : Nat → Int32) (hq : Nat → Nat) (qr : Nat → Nat → Nat) (QO : Nat → Option Nat) (QF : Nat → Nat → Int32) (QA : Nat → Nat → Nat → Int32) (PG : Nat → Pgs)  (hpn : PrN QF) (hpg : PgA PG) : MetI l y_Mo_pages b_Mo_pages 1 (.int) D cs 0 0 (0) (0) [.ref mo] [wd_Mo cs mo mr (fun _ => none) mf md (gMo PG hq), fm 13 (fPr cs hq qr QO QF QA), fm 8 (fPg cs PG)] (fun _ => True) (fun v ps => ∃ (mf' : Nat → Int32), (ps = [wd_Mo cs mo mr (fun _ => none) mf' md (gMo PG hq), fm 13 (fPr cs hq qr QO QF QA), fm 8 (fPg cs PG)]) ∧ ((mf' 2).toInt = (mf 2).toInt) ∧ ((mf' 3).toInt = (mf 3).toInt) ∧ ((mf' 10).toInt = (mf 10).toInt) ∧ (v.toInt = 0)) := by
  refine px_enter (by decide) (Nat.le_of_ble_eq_true rfl) ?_
  intro p e s m below meth c A ls hAe S hr hlk hnm hA hT hX hw hl
  have hl : lv_has ls 1 [(0, .ref mo)] := hl
  have cst0 : (0 : Int32).toInt = 0 := rfl
  refine lv_aload_n S.x S.b d_Mo_pages_0 rfl (lv_at hl 0 rfl) ?_
  refine lv_iconst (v := 0) S.x S.b d_Mo_pages_1 (by decide) ?_
  refine px_put S k_Mo hT hw 0 0 0 rfl rfl (by decide) m11_78 rfl rfl rfl (Nat.le_of_ble_eq_true rfl) d_Mo_pages_2 (w' := wd_Mo cs mo mr (fun _ => none) (upd mf 0 0) md (gMo PG hq)) (ps' := [wd_Mo cs mo mr (fun _ => none) (upd mf 0 0) md (gMo PG hq), fm 13 (fPr cs hq qr QO QF QA), fm 8 (fPg cs PG)]) rfl rfl (fun H locs hw => ?_)
  refine lv_iconst (v := 0) S.x S.b d_Mo_pages_5 (by decide) ?_
  exact px_iret (v := 0) S hr rfl hlk hAe hw (Nat.le_of_ble_eq_true rfl) (Nat.le_of_ble_eq_true rfl) (⟨(upd mf 0 0), rfl, (show (mf 2).toInt = (mf 2).toInt from rfl), (show (mf 3).toInt = (mf 3).toInt from rfl), (show (mf 10).toInt = (mf 10).toInt from rfl), (show (0 : Int) = 0 from by first | exact oz_7d1a308c7e | omega)⟩) d_Mo_pages_6
abbrev b_Mo_wrong : ByteArray := prog_14_method_40_code
def y_Mo_wrong : MethodName := ⟨"HomeSystemModel", "wrong", "()I"⟩
theorem d_Mo_wrong_0 : decode b_Mo_wrong 0 = .ok (.aload_n 0, 1) := by decide +kernel
theorem d_Mo_wrong_1 : decode b_Mo_wrong 1 = .ok (.iconst 0, 1) := by decide +kernel
theorem d_Mo_wrong_2 : decode b_Mo_wrong 2 = .ok (.putfield 35, 3) := by decide +kernel
theorem d_Mo_wrong_5 : decode b_Mo_wrong 5 = .ok (.iconst 0, 1) := by decide +kernel
theorem d_Mo_wrong_6 : decode b_Mo_wrong 6 = .ok (.ireturn, 1) := by decide +kernel
theorem q_Mo_wrong : px_y y_Mo_wrong 0 := by unfold px_y; decide +kernel
set_option maxHeartbeats 4000000 in
set_option maxRecDepth 100000 in
theorem c_mo_wrong (l : Launch) (D : va_G) (cs : Nat → ClassId) (mo : Nat) (mr : Nat → Nat) (md : Nat → Nat → Int32) (mf : Nat → Int32) (hq : Nat → Nat) (qr : Nat → Nat → Nat) (QO : Nat → Option Nat) (QF : Nat → Nat → Int32) (QA : Nat → Nat → Nat → Int32) (PG : Nat → Pgs)  (hpn : PrN QF) (hpg : PgA PG) : MetI l y_Mo_wrong b_Mo_wrong 1 (.int) D cs 0 0 (0) (0) [.ref mo] [wd_Mo cs mo mr (fun _ => none) mf md (gMo PG hq), fm 13 (fPr cs hq qr QO QF QA), fm 8 (fPg cs PG)] (fun _ => True) (fun v ps => ∃ (mf' : Nat → Int32), (ps = [wd_Mo cs mo mr (fun _ => none) mf' md (gMo PG hq), fm 13 (fPr cs hq qr QO QF QA), fm 8 (fPg cs PG)]) ∧ ((mf' 2).toInt = (mf 2).toInt) ∧ ((mf' 3).toInt = (mf 3).toInt) ∧ ((mf' 10).toInt = (mf 10).toInt) ∧ (v.toInt = 0)) := by
  refine px_enter (by decide) (Nat.le_of_ble_eq_true rfl) ?_
  intro p e s m below meth c A ls hAe S hr hlk hnm hA hT hX hw hl
  have hl : lv_has ls 1 [(0, .ref mo)] := hl
  have cst0 : (0 : Int32).toInt = 0 := rfl
  refine lv_aload_n S.x S.b d_Mo_wrong_0 rfl (lv_at hl 0 rfl) ?_
  refine lv_iconst (v := 0) S.x S.b d_Mo_wrong_1 (by decide) ?_
  refine px_put S k_Mo hT hw 0 0 0 rfl rfl (by decide) m11_78 rfl rfl rfl (Nat.le_of_ble_eq_true rfl) d_Mo_wrong_2 (w' := wd_Mo cs mo mr (fun _ => none) (upd mf 0 0) md (gMo PG hq)) (ps' := [wd_Mo cs mo mr (fun _ => none) (upd mf 0 0) md (gMo PG hq), fm 13 (fPr cs hq qr QO QF QA), fm 8 (fPg cs PG)]) rfl rfl (fun H locs hw => ?_)
  refine lv_iconst (v := 0) S.x S.b d_Mo_wrong_5 (by decide) ?_
  exact px_iret (v := 0) S hr rfl hlk hAe hw (Nat.le_of_ble_eq_true rfl) (Nat.le_of_ble_eq_true rfl) (⟨(upd mf 0 0), rfl, (show (mf 2).toInt = (mf 2).toInt from rfl), (show (mf 3).toInt = (mf 3).toInt from rfl), (show (mf 10).toInt = (mf 10).toInt from rfl), (show (0 : Int) = 0 from by first | exact oz_7d1a308c7e | omega)⟩) d_Mo_wrong_6
abbrev b_Mo_outcome : ByteArray := prog_14_method_31_code
def y_Mo_outcome : MethodName := ⟨"HomeSystemModel", "outcome", "(I)I"⟩
theorem d_Mo_outcome_0 : decode b_Mo_outcome 0 = .ok (.aload_n 0, 1) := by decide +kernel
theorem d_Mo_outcome_1 : decode b_Mo_outcome 1 = .ok (.iload_n 1, 1) := by decide +kernel
theorem d_Mo_outcome_2 : decode b_Mo_outcome 2 = .ok (.invokestatic 233, 3) := by decide +kernel
theorem d_Mo_outcome_5 : decode b_Mo_outcome 5 = .ok (.invokevirtual 236, 3) := by decide +kernel
theorem d_Mo_outcome_8 : decode b_Mo_outcome 8 = .ok (.ifCond .eq 7, 3) := by decide +kernel
theorem d_Mo_outcome_11 : decode b_Mo_outcome 11 = .ok (.iconst 0, 1) := by decide +kernel
theorem d_Mo_outcome_12 : decode b_Mo_outcome 12 = .ok (.goto 28, 3) := by decide +kernel
theorem d_Mo_outcome_15 : decode b_Mo_outcome 15 = .ok (.aload_n 0, 1) := by decide +kernel
theorem d_Mo_outcome_16 : decode b_Mo_outcome 16 = .ok (.getfield 21, 3) := by decide +kernel
theorem d_Mo_outcome_19 : decode b_Mo_outcome 19 = .ok (.iload_n 1, 1) := by decide +kernel
theorem d_Mo_outcome_20 : decode b_Mo_outcome 20 = .ok (.aaload, 1) := by decide +kernel
theorem d_Mo_outcome_21 : decode b_Mo_outcome 21 = .ok (.getfield 69, 3) := by decide +kernel
theorem d_Mo_outcome_24 : decode b_Mo_outcome 24 = .ok (.ifCond .eq 15, 3) := by decide +kernel
theorem d_Mo_outcome_27 : decode b_Mo_outcome 27 = .ok (.aload_n 0, 1) := by decide +kernel
theorem d_Mo_outcome_28 : decode b_Mo_outcome 28 = .ok (.getfield 21, 3) := by decide +kernel
theorem d_Mo_outcome_31 : decode b_Mo_outcome 31 = .ok (.iload_n 1, 1) := by decide +kernel
theorem d_Mo_outcome_32 : decode b_Mo_outcome 32 = .ok (.aaload, 1) := by decide +kernel
theorem d_Mo_outcome_33 : decode b_Mo_outcome 33 = .ok (.getfield 127, 3) := by decide +kernel
theorem d_Mo_outcome_36 : decode b_Mo_outcome 36 = .ok (.goto 4, 3) := by decide +kernel
theorem d_Mo_outcome_39 : decode b_Mo_outcome 39 = .ok (.iconst (-1), 1) := by decide +kernel
theorem d_Mo_outcome_40 : decode b_Mo_outcome 40 = .ok (.ireturn, 1) := by decide +kernel
theorem q_Mo_outcome : px_y y_Mo_outcome 1 := by unfold px_y; decide +kernel
set_option maxHeartbeats 4000000 in
set_option maxRecDepth 100000 in
theorem c_mo_outcome (l : Launch) (D : va_G) (cs : Nat → ClassId) (mo : Nat) (mr : Nat → Nat) (md : Nat → Nat → Int32) (mf : Nat → Int32) (hq : Nat → Nat) (qr : Nat → Nat → Nat) (QO : Nat → Option Nat) (QF : Nat → Nat → Int32) (QA : Nat → Nat → Nat → Int32) (PG : Nat → Pgs) (p0 : Int32)  (hpn : PrN QF) (hpg : PgA PG) : MetI l y_Mo_outcome b_Mo_outcome 2 (.int) D cs 1 40 (0) (0) [.ref mo, .int p0] [wd_Mo cs mo mr (fun _ => none) mf md (gMo PG hq), fm 13 (fPr cs hq qr QO QF QA), fm 8 (fPg cs PG)] (fun _ => True) (fun v ps => ∃ (mf' : Nat → Int32), (ps = [wd_Mo cs mo mr (fun _ => none) mf' md (gMo PG hq), fm 13 (fPr cs hq qr QO QF QA), fm 8 (fPg cs PG)]) ∧ ((mf' 2).toInt = (mf 2).toInt) ∧ ((mf' 3).toInt = (mf 3).toInt) ∧ ((mf' 10).toInt = (mf 10).toInt)) := by
  refine px_enter (by decide) (Nat.le_of_ble_eq_true rfl) ?_
  intro p e s m below meth c A ls hAe S hr hlk hnm hA hT hX hw hl
  have hl : lv_has ls 2 [(0, .ref mo), (1, .int p0)] := hl
  have lp0 := Int32.le_toInt p0
  have up0 := Int32.toInt_lt p0
  have cstm1 : ((-1) : Int32).toInt = (-1) := rfl
  have cst0 : (0 : Int32).toInt = 0 := rfl
  refine lv_aload_n S.x S.b d_Mo_outcome_0 rfl (lv_at hl 0 rfl) ?_
  refine lv_iload_n S.x S.b d_Mo_outcome_1 rfl (lv_at hl 1 rfl) ?_
  refine px_calli (pr := [wd_Mo cs mo mr (fun _ => none) mf md (gMo PG hq), fm 13 (fPr cs hq qr QO QF QA), fm 8 (fPg cs PG)]) (px_runS (As := [.int p0]) (rest := [.ref mo]) S (c_mo_isNone l D cs  p0   _) hT (pr := [wd_Mo cs mo mr (fun _ => none) mf md (gMo PG hq), fm 13 (fPr cs hq qr QO QF QA), fm 8 (fPg cs PG)]) (pcs := []) hw px_X.tt m14_180 m14_178 m14_179 m1_20 q_Mo_isNone ⟨Nat.le_of_ble_eq_true rfl, Nat.le_of_ble_eq_true rfl⟩ hl.1 rfl (Nat.le_of_ble_eq_true rfl) d_Mo_outcome_2 ⟨Nat.le_of_ble_eq_true rfl, Nat.le_of_ble_eq_true rfl⟩) hw hA (fun v2 p1 H locs hp1 hw => ?_)
  obtain ⟨rfl, e3, e4, e5⟩ := hp1
  have e3 : 0 ≤ v2.toInt := e3
  have e4 : v2.toInt ≤ 1 := e4
  have e5 : v2.toInt = 0 → 0 ≤ p0.toInt ∧ p0.toInt < 13 := e5
  have hw : pw D A s.heap H locs [wd_Mo cs mo mr (fun _ => none) mf md (gMo PG hq), fm 13 (fPr cs hq qr QO QF QA), fm 8 (fPg cs PG)] := hw
  have lv2 := Int32.le_toInt v2
  have uv2 := Int32.toInt_lt v2
  refine px_calli (pr := []) (px_runV (As := [.int v2]) (rest := []) S (c_mo_refused l D cs mo mr md mf hq qr QO QF QA PG v2  (show 0 ≤ v2.toInt from by first | exact e3 | omega) (show v2.toInt ≤ 1 from by first | exact e4 | omega) hpn hpg _) hT (pr := []) (pcs := [wd_Mo cs mo mr (fun _ => none) mf md (gMo PG hq), fm 13 (fPr cs hq qr QO QF QA), fm 8 (fPg cs PG)]) hw px_X.tt (px_recv hT hw 0 0 rfl rfl rfl) m14_184 m14_181 m14_183 ms_17_7 m1_20 q_Mo_refused ⟨Nat.le_of_ble_eq_true rfl, Nat.le_of_ble_eq_true rfl⟩ hl.1 rfl (Nat.le_of_ble_eq_true rfl) d_Mo_outcome_5 ⟨Nat.le_of_ble_eq_true rfl, Nat.le_of_ble_eq_true rfl⟩) hw hA (fun v9 p8 H locs hp8 hw => ?_)
  obtain ⟨mf7, rfl, e10, e11, e12, e13, e14⟩ := hp8
  have e10 : (mf7 2).toInt = (mf 2).toInt := e10
  have e11 : (mf7 3).toInt = (mf 3).toInt := e11
  have e12 : (mf7 10).toInt = (mf 10).toInt := e12
  have e13 : v9.toInt = v2.toInt := e13
  have e14 : (mf7 0).toInt = v2.toInt := e14
  have hw : pw D A s.heap H locs [wd_Mo cs mo mr (fun _ => none) mf7 md (gMo PG hq), fm 13 (fPr cs hq qr QO QF QA), fm 8 (fPg cs PG)] := hw
  have lv9 := Int32.le_toInt v9
  have uv9 := Int32.toInt_lt v9
  refine lv_if_eq (tgt := 15) S.x S.b d_Mo_outcome_8 (by decide) (fun c15 => ?_) (fun c15 => ?_)
  · have nc15 : v9.toInt = (0 : Int) := (i_eq (x := v9) (y := 0)).mp c15
    refine lv_aload_n S.x S.b d_Mo_outcome_15 rfl (lv_at hl 0 rfl) ?_
    refine px_get S k_Mo hT hw 0 0 5 (v := .ref (mr 5)) rfl rfl rfl (by decide) m11_83 d_Mo_outcome_16 ?_
    refine lv_iload_n S.x S.b d_Mo_outcome_19 rfl (lv_at hl 1 rfl) ?_
    refine px_aaldS S hT hw 0 3 10 (n := 13) (f := ((gMo PG hq) 5)) rfl rfl rfl (x := p0) (vp_in_iff.mpr (by first | exact oz_e25e63ef09 e13 nc15 e3 e5 | (constructor <;> omega))) (sk := (hq p0.toNatClampNeg)) rfl d_Mo_outcome_20 ?_
    have hw : pw D A s.heap _ _ [wd_Mo cs mo mr (fun _ => none) mf7 md (gMo PG hq), fm 8 (fPg cs PG), fm 13 (fPr cs hq qr QO QF QA)] := hw.sub [0, 2, 1] rfl rfl
    have hc17 := cl_nat (x := p0) (by first | exact oz_016f458179 hc17 | omega)
    have hi17 : p0.toNatClampNeg < 13 := by first | exact oz_1a2df8431c hc17 e13 nc15 e3 e5 | omega
    have hw : pw D A s.heap _ _ [wd_Mo cs mo mr (fun _ => none) mf7 md (gMo PG hq), fm 8 (fPg cs PG), fo 13 (fPr cs hq qr QO QF QA) p0.toNatClampNeg, wd_Mpr cs (hq p0.toNatClampNeg) (qr p0.toNatClampNeg) (fun _ => QO p0.toNatClampNeg) (QF p0.toNatClampNeg) (QA p0.toNatClampNeg) (fun _ _ => none)] := fm_out (pr := [wd_Mo cs mo mr (fun _ => none) mf7 md (gMo PG hq), fm 8 (fPg cs PG)]) (T := fPr cs hq qr QO QF QA) hw hi17
    have hpb17 := hpn p0.toNatClampNeg hi17
    unfold PsB at hpb17
    refine px_get S k_Mpr hT hw 3 0 1 (v := .int ((QF p0.toNatClampNeg) 1)) rfl rfl rfl (by decide) m10_224 d_Mo_outcome_21 ?_
    refine lv_if_eq (tgt := 39) S.x S.b d_Mo_outcome_24 (by decide) (fun c18 => ?_) (fun c18 => ?_)
    · have nc18 : ((QF p0.toNatClampNeg) 1).toInt = (0 : Int) := (i_eq (x := ((QF p0.toNatClampNeg) 1)) (y := 0)).mp c18
      refine lv_iconst (v := (-1)) S.x S.b d_Mo_outcome_39 (by decide) ?_
      have hw : pw D A s.heap _ _ [wd_Mo cs mo mr (fun _ => none) mf7 md (gMo PG hq), fm 8 (fPg cs PG), fm 13 (fPr cs hq qr QO QF QA)] := fm_back (pr := [wd_Mo cs mo mr (fun _ => none) mf7 md (gMo PG hq), fm 8 (fPg cs PG)]) (T := fPr cs hq qr QO QF QA) hw hi17
      have hw : pw D A s.heap _ _ [wd_Mo cs mo mr (fun _ => none) mf7 md (gMo PG hq), fm 13 (fPr cs hq qr QO QF QA), fm 8 (fPg cs PG)] := hw.sub [0, 2, 1] rfl rfl
      exact px_iret (v := (-1)) S hr rfl hlk hAe hw (Nat.le_of_ble_eq_true rfl) (Nat.le_of_ble_eq_true rfl) (⟨mf7, rfl, (show (mf7 2).toInt = (mf 2).toInt from by first | exact e10 | omega), (show (mf7 3).toInt = (mf 3).toInt from by first | exact e11 | omega), (show (mf7 10).toInt = (mf 10).toInt from by first | exact e12 | omega)⟩) d_Mo_outcome_40
    · have nc18 : ¬ ((QF p0.toNatClampNeg) 1).toInt = (0 : Int) := mt (i_eq (x := ((QF p0.toNatClampNeg) 1)) (y := 0)).mpr c18
      refine lv_aload_n S.x S.b d_Mo_outcome_27 rfl (lv_at hl 0 rfl) ?_
      refine px_get S k_Mo hT hw 0 0 5 (v := .ref (mr 5)) rfl rfl rfl (by decide) m11_83 d_Mo_outcome_28 ?_
      refine lv_iload_n S.x S.b d_Mo_outcome_31 rfl (lv_at hl 1 rfl) ?_
      refine px_aaldS S hT hw 0 3 10 (n := 13) (f := ((gMo PG hq) 5)) rfl rfl rfl (x := p0) (vp_in_iff.mpr (by first | exact oz_3859d57d28 hc17 hi17 | (constructor <;> omega))) (sk := (hq p0.toNatClampNeg)) rfl d_Mo_outcome_32 ?_
      refine px_get S k_Mpr hT hw 3 0 2 (v := .int ((QF p0.toNatClampNeg) 2)) rfl rfl rfl (by decide) m10_226 d_Mo_outcome_33 ?_
      refine lv_goto (tgt := 40) S.x S.b d_Mo_outcome_36 (by decide) ?_
      have hw : pw D A s.heap _ _ [wd_Mo cs mo mr (fun _ => none) mf7 md (gMo PG hq), fm 8 (fPg cs PG), fm 13 (fPr cs hq qr QO QF QA)] := fm_back (pr := [wd_Mo cs mo mr (fun _ => none) mf7 md (gMo PG hq), fm 8 (fPg cs PG)]) (T := fPr cs hq qr QO QF QA) hw hi17
      have hw : pw D A s.heap _ _ [wd_Mo cs mo mr (fun _ => none) mf7 md (gMo PG hq), fm 13 (fPr cs hq qr QO QF QA), fm 8 (fPg cs PG)] := hw.sub [0, 2, 1] rfl rfl
      exact px_iret (v := ((QF p0.toNatClampNeg) 2)) S hr rfl hlk hAe hw (Nat.le_of_ble_eq_true rfl) (Nat.le_of_ble_eq_true rfl) (⟨mf7, rfl, (show (mf7 2).toInt = (mf 2).toInt from by first | exact e10 | omega), (show (mf7 3).toInt = (mf 3).toInt from by first | exact e11 | omega), (show (mf7 10).toInt = (mf 10).toInt from by first | exact e12 | omega)⟩) d_Mo_outcome_40
  · have nc15 : ¬ v9.toInt = (0 : Int) := mt (i_eq (x := v9) (y := 0)).mpr c15
    refine lv_iconst (v := 0) S.x S.b d_Mo_outcome_11 (by decide) ?_
    refine lv_goto (tgt := 40) S.x S.b d_Mo_outcome_12 (by decide) ?_
    exact px_iret (v := 0) S hr rfl hlk hAe hw (Nat.le_of_ble_eq_true rfl) (Nat.le_of_ble_eq_true rfl) (⟨mf7, rfl, (show (mf7 2).toInt = (mf 2).toInt from by first | exact e10 | omega), (show (mf7 3).toInt = (mf 3).toInt from by first | exact e11 | omega), (show (mf7 10).toInt = (mf 10).toInt from by first | exact e12 | omega)⟩) d_Mo_outcome_40
abbrev b_Mo_value : ByteArray := prog_14_method_32_code
def y_Mo_value : MethodName := ⟨"HomeSystemModel", "value", "(I)I"⟩
theorem d_Mo_value_0 : decode b_Mo_value 0 = .ok (.aload_n 0, 1) := by decide +kernel
theorem d_Mo_value_1 : decode b_Mo_value 1 = .ok (.iload_n 1, 1) := by decide +kernel
theorem d_Mo_value_2 : decode b_Mo_value 2 = .ok (.invokestatic 233, 3) := by decide +kernel
theorem d_Mo_value_5 : decode b_Mo_value 5 = .ok (.invokevirtual 236, 3) := by decide +kernel
theorem d_Mo_value_8 : decode b_Mo_value 8 = .ok (.ifCond .eq 7, 3) := by decide +kernel
theorem d_Mo_value_11 : decode b_Mo_value 11 = .ok (.iconst 0, 1) := by decide +kernel
theorem d_Mo_value_12 : decode b_Mo_value 12 = .ok (.goto 28, 3) := by decide +kernel
theorem d_Mo_value_15 : decode b_Mo_value 15 = .ok (.aload_n 0, 1) := by decide +kernel
theorem d_Mo_value_16 : decode b_Mo_value 16 = .ok (.getfield 21, 3) := by decide +kernel
theorem d_Mo_value_19 : decode b_Mo_value 19 = .ok (.iload_n 1, 1) := by decide +kernel
theorem d_Mo_value_20 : decode b_Mo_value 20 = .ok (.aaload, 1) := by decide +kernel
theorem d_Mo_value_21 : decode b_Mo_value 21 = .ok (.getfield 69, 3) := by decide +kernel
theorem d_Mo_value_24 : decode b_Mo_value 24 = .ok (.ifCond .eq 15, 3) := by decide +kernel
theorem d_Mo_value_27 : decode b_Mo_value 27 = .ok (.aload_n 0, 1) := by decide +kernel
theorem d_Mo_value_28 : decode b_Mo_value 28 = .ok (.getfield 21, 3) := by decide +kernel
theorem d_Mo_value_31 : decode b_Mo_value 31 = .ok (.iload_n 1, 1) := by decide +kernel
theorem d_Mo_value_32 : decode b_Mo_value 32 = .ok (.aaload, 1) := by decide +kernel
theorem d_Mo_value_33 : decode b_Mo_value 33 = .ok (.getfield 130, 3) := by decide +kernel
theorem d_Mo_value_36 : decode b_Mo_value 36 = .ok (.goto 4, 3) := by decide +kernel
theorem d_Mo_value_39 : decode b_Mo_value 39 = .ok (.iconst 0, 1) := by decide +kernel
theorem d_Mo_value_40 : decode b_Mo_value 40 = .ok (.ireturn, 1) := by decide +kernel
theorem q_Mo_value : px_y y_Mo_value 1 := by unfold px_y; decide +kernel
set_option maxHeartbeats 4000000 in
set_option maxRecDepth 100000 in
theorem c_mo_value (l : Launch) (D : va_G) (cs : Nat → ClassId) (mo : Nat) (mr : Nat → Nat) (md : Nat → Nat → Int32) (mf : Nat → Int32) (hq : Nat → Nat) (qr : Nat → Nat → Nat) (QO : Nat → Option Nat) (QF : Nat → Nat → Int32) (QA : Nat → Nat → Nat → Int32) (PG : Nat → Pgs) (p0 : Int32)  (hpn : PrN QF) (hpg : PgA PG) : MetI l y_Mo_value b_Mo_value 2 (.int) D cs 1 40 (0) (0) [.ref mo, .int p0] [wd_Mo cs mo mr (fun _ => none) mf md (gMo PG hq), fm 13 (fPr cs hq qr QO QF QA), fm 8 (fPg cs PG)] (fun _ => True) (fun v ps => ∃ (mf' : Nat → Int32), (ps = [wd_Mo cs mo mr (fun _ => none) mf' md (gMo PG hq), fm 13 (fPr cs hq qr QO QF QA), fm 8 (fPg cs PG)]) ∧ ((mf' 2).toInt = (mf 2).toInt) ∧ ((mf' 3).toInt = (mf 3).toInt) ∧ ((mf' 10).toInt = (mf 10).toInt)) := by
  refine px_enter (by decide) (Nat.le_of_ble_eq_true rfl) ?_
  intro p e s m below meth c A ls hAe S hr hlk hnm hA hT hX hw hl
  have hl : lv_has ls 2 [(0, .ref mo), (1, .int p0)] := hl
  have lp0 := Int32.le_toInt p0
  have up0 := Int32.toInt_lt p0
  have cst0 : (0 : Int32).toInt = 0 := rfl
  refine lv_aload_n S.x S.b d_Mo_value_0 rfl (lv_at hl 0 rfl) ?_
  refine lv_iload_n S.x S.b d_Mo_value_1 rfl (lv_at hl 1 rfl) ?_
  refine px_calli (pr := [wd_Mo cs mo mr (fun _ => none) mf md (gMo PG hq), fm 13 (fPr cs hq qr QO QF QA), fm 8 (fPg cs PG)]) (px_runS (As := [.int p0]) (rest := [.ref mo]) S (c_mo_isNone l D cs  p0   _) hT (pr := [wd_Mo cs mo mr (fun _ => none) mf md (gMo PG hq), fm 13 (fPr cs hq qr QO QF QA), fm 8 (fPg cs PG)]) (pcs := []) hw px_X.tt m14_180 m14_178 m14_179 m1_20 q_Mo_isNone ⟨Nat.le_of_ble_eq_true rfl, Nat.le_of_ble_eq_true rfl⟩ hl.1 rfl (Nat.le_of_ble_eq_true rfl) d_Mo_value_2 ⟨Nat.le_of_ble_eq_true rfl, Nat.le_of_ble_eq_true rfl⟩) hw hA (fun v2 p1 H locs hp1 hw => ?_)
  obtain ⟨rfl, e3, e4, e5⟩ := hp1
  have e3 : 0 ≤ v2.toInt := e3
  have e4 : v2.toInt ≤ 1 := e4
  have e5 : v2.toInt = 0 → 0 ≤ p0.toInt ∧ p0.toInt < 13 := e5
  have hw : pw D A s.heap H locs [wd_Mo cs mo mr (fun _ => none) mf md (gMo PG hq), fm 13 (fPr cs hq qr QO QF QA), fm 8 (fPg cs PG)] := hw
  have lv2 := Int32.le_toInt v2
  have uv2 := Int32.toInt_lt v2
  refine px_calli (pr := []) (px_runV (As := [.int v2]) (rest := []) S (c_mo_refused l D cs mo mr md mf hq qr QO QF QA PG v2  (show 0 ≤ v2.toInt from by first | exact e3 | omega) (show v2.toInt ≤ 1 from by first | exact e4 | omega) hpn hpg _) hT (pr := []) (pcs := [wd_Mo cs mo mr (fun _ => none) mf md (gMo PG hq), fm 13 (fPr cs hq qr QO QF QA), fm 8 (fPg cs PG)]) hw px_X.tt (px_recv hT hw 0 0 rfl rfl rfl) m14_184 m14_181 m14_183 ms_17_7 m1_20 q_Mo_refused ⟨Nat.le_of_ble_eq_true rfl, Nat.le_of_ble_eq_true rfl⟩ hl.1 rfl (Nat.le_of_ble_eq_true rfl) d_Mo_value_5 ⟨Nat.le_of_ble_eq_true rfl, Nat.le_of_ble_eq_true rfl⟩) hw hA (fun v9 p8 H locs hp8 hw => ?_)
  obtain ⟨mf7, rfl, e10, e11, e12, e13, e14⟩ := hp8
  have e10 : (mf7 2).toInt = (mf 2).toInt := e10
  have e11 : (mf7 3).toInt = (mf 3).toInt := e11
  have e12 : (mf7 10).toInt = (mf 10).toInt := e12
  have e13 : v9.toInt = v2.toInt := e13
  have e14 : (mf7 0).toInt = v2.toInt := e14
  have hw : pw D A s.heap H locs [wd_Mo cs mo mr (fun _ => none) mf7 md (gMo PG hq), fm 13 (fPr cs hq qr QO QF QA), fm 8 (fPg cs PG)] := hw
  have lv9 := Int32.le_toInt v9
  have uv9 := Int32.toInt_lt v9
  refine lv_if_eq (tgt := 15) S.x S.b d_Mo_value_8 (by decide) (fun c15 => ?_) (fun c15 => ?_)
  · have nc15 : v9.toInt = (0 : Int) := (i_eq (x := v9) (y := 0)).mp c15
    refine lv_aload_n S.x S.b d_Mo_value_15 rfl (lv_at hl 0 rfl) ?_
    refine px_get S k_Mo hT hw 0 0 5 (v := .ref (mr 5)) rfl rfl rfl (by decide) m11_83 d_Mo_value_16 ?_
    refine lv_iload_n S.x S.b d_Mo_value_19 rfl (lv_at hl 1 rfl) ?_
    refine px_aaldS S hT hw 0 3 10 (n := 13) (f := ((gMo PG hq) 5)) rfl rfl rfl (x := p0) (vp_in_iff.mpr (by first | exact oz_e25e63ef09 e13 nc15 e3 e5 | (constructor <;> omega))) (sk := (hq p0.toNatClampNeg)) rfl d_Mo_value_20 ?_
    have hw : pw D A s.heap _ _ [wd_Mo cs mo mr (fun _ => none) mf7 md (gMo PG hq), fm 8 (fPg cs PG), fm 13 (fPr cs hq qr QO QF QA)] := hw.sub [0, 2, 1] rfl rfl
    have hc17 := cl_nat (x := p0) (by first | exact oz_016f458179 hc17 | omega)
    have hi17 : p0.toNatClampNeg < 13 := by first | exact oz_1a2df8431c hc17 e13 nc15 e3 e5 | omega
    have hw : pw D A s.heap _ _ [wd_Mo cs mo mr (fun _ => none) mf7 md (gMo PG hq), fm 8 (fPg cs PG), fo 13 (fPr cs hq qr QO QF QA) p0.toNatClampNeg, wd_Mpr cs (hq p0.toNatClampNeg) (qr p0.toNatClampNeg) (fun _ => QO p0.toNatClampNeg) (QF p0.toNatClampNeg) (QA p0.toNatClampNeg) (fun _ _ => none)] := fm_out (pr := [wd_Mo cs mo mr (fun _ => none) mf7 md (gMo PG hq), fm 8 (fPg cs PG)]) (T := fPr cs hq qr QO QF QA) hw hi17
    have hpb17 := hpn p0.toNatClampNeg hi17
    unfold PsB at hpb17
    refine px_get S k_Mpr hT hw 3 0 1 (v := .int ((QF p0.toNatClampNeg) 1)) rfl rfl rfl (by decide) m10_224 d_Mo_value_21 ?_
    refine lv_if_eq (tgt := 39) S.x S.b d_Mo_value_24 (by decide) (fun c18 => ?_) (fun c18 => ?_)
    · have nc18 : ((QF p0.toNatClampNeg) 1).toInt = (0 : Int) := (i_eq (x := ((QF p0.toNatClampNeg) 1)) (y := 0)).mp c18
      refine lv_iconst (v := 0) S.x S.b d_Mo_value_39 (by decide) ?_
      have hw : pw D A s.heap _ _ [wd_Mo cs mo mr (fun _ => none) mf7 md (gMo PG hq), fm 8 (fPg cs PG), fm 13 (fPr cs hq qr QO QF QA)] := fm_back (pr := [wd_Mo cs mo mr (fun _ => none) mf7 md (gMo PG hq), fm 8 (fPg cs PG)]) (T := fPr cs hq qr QO QF QA) hw hi17
      have hw : pw D A s.heap _ _ [wd_Mo cs mo mr (fun _ => none) mf7 md (gMo PG hq), fm 13 (fPr cs hq qr QO QF QA), fm 8 (fPg cs PG)] := hw.sub [0, 2, 1] rfl rfl
      exact px_iret (v := 0) S hr rfl hlk hAe hw (Nat.le_of_ble_eq_true rfl) (Nat.le_of_ble_eq_true rfl) (⟨mf7, rfl, (show (mf7 2).toInt = (mf 2).toInt from by first | exact e10 | omega), (show (mf7 3).toInt = (mf 3).toInt from by first | exact e11 | omega), (show (mf7 10).toInt = (mf 10).toInt from by first | exact e12 | omega)⟩) d_Mo_value_40
    · have nc18 : ¬ ((QF p0.toNatClampNeg) 1).toInt = (0 : Int) := mt (i_eq (x := ((QF p0.toNatClampNeg) 1)) (y := 0)).mpr c18
      refine lv_aload_n S.x S.b d_Mo_value_27 rfl (lv_at hl 0 rfl) ?_
      refine px_get S k_Mo hT hw 0 0 5 (v := .ref (mr 5)) rfl rfl rfl (by decide) m11_83 d_Mo_value_28 ?_
      refine lv_iload_n S.x S.b d_Mo_value_31 rfl (lv_at hl 1 rfl) ?_
      refine px_aaldS S hT hw 0 3 10 (n := 13) (f := ((gMo PG hq) 5)) rfl rfl rfl (x := p0) (vp_in_iff.mpr (by first | exact oz_3859d57d28 hc17 hi17 | (constructor <;> omega))) (sk := (hq p0.toNatClampNeg)) rfl d_Mo_value_32 ?_
      refine px_get S k_Mpr hT hw 3 0 3 (v := .int ((QF p0.toNatClampNeg) 3)) rfl rfl rfl (by decide) m10_228 d_Mo_value_33 ?_
      refine lv_goto (tgt := 40) S.x S.b d_Mo_value_36 (by decide) ?_
      have hw : pw D A s.heap _ _ [wd_Mo cs mo mr (fun _ => none) mf7 md (gMo PG hq), fm 8 (fPg cs PG), fm 13 (fPr cs hq qr QO QF QA)] := fm_back (pr := [wd_Mo cs mo mr (fun _ => none) mf7 md (gMo PG hq), fm 8 (fPg cs PG)]) (T := fPr cs hq qr QO QF QA) hw hi17
      have hw : pw D A s.heap _ _ [wd_Mo cs mo mr (fun _ => none) mf7 md (gMo PG hq), fm 13 (fPr cs hq qr QO QF QA), fm 8 (fPg cs PG)] := hw.sub [0, 2, 1] rfl rfl
      exact px_iret (v := ((QF p0.toNatClampNeg) 3)) S hr rfl hlk hAe hw (Nat.le_of_ble_eq_true rfl) (Nat.le_of_ble_eq_true rfl) (⟨mf7, rfl, (show (mf7 2).toInt = (mf 2).toInt from by first | exact e10 | omega), (show (mf7 3).toInt = (mf 3).toInt from by first | exact e11 | omega), (show (mf7 10).toInt = (mf 10).toInt from by first | exact e12 | omega)⟩) d_Mo_value_40
  · have nc15 : ¬ v9.toInt = (0 : Int) := mt (i_eq (x := v9) (y := 0)).mpr c15
    refine lv_iconst (v := 0) S.x S.b d_Mo_value_11 (by decide) ?_
    refine lv_goto (tgt := 40) S.x S.b d_Mo_value_12 (by decide) ?_
    exact px_iret (v := 0) S hr rfl hlk hAe hw (Nat.le_of_ble_eq_true rfl) (Nat.le_of_ble_eq_true rfl) (⟨mf7, rfl, (show (mf7 2).toInt = (mf 2).toInt from by first | exact e10 | omega), (show (mf7 3).toInt = (mf 3).toInt from by first | exact e11 | omega), (show (mf7 10).toInt = (mf 10).toInt from by first | exact e12 | omega)⟩) d_Mo_value_40
abbrev b_Mo_paper : ByteArray := prog_14_method_33_code
def y_Mo_paper : MethodName := ⟨"HomeSystemModel", "paper", "(I)I"⟩
theorem d_Mo_paper_0 : decode b_Mo_paper 0 = .ok (.aload_n 0, 1) := by decide +kernel
theorem d_Mo_paper_1 : decode b_Mo_paper 1 = .ok (.iload_n 1, 1) := by decide +kernel
theorem d_Mo_paper_2 : decode b_Mo_paper 2 = .ok (.invokestatic 233, 3) := by decide +kernel
theorem d_Mo_paper_5 : decode b_Mo_paper 5 = .ok (.invokevirtual 236, 3) := by decide +kernel
theorem d_Mo_paper_8 : decode b_Mo_paper 8 = .ok (.ifCond .eq 7, 3) := by decide +kernel
theorem d_Mo_paper_11 : decode b_Mo_paper 11 = .ok (.iconst 0, 1) := by decide +kernel
theorem d_Mo_paper_12 : decode b_Mo_paper 12 = .ok (.goto 12, 3) := by decide +kernel
theorem d_Mo_paper_15 : decode b_Mo_paper 15 = .ok (.aload_n 0, 1) := by decide +kernel
theorem d_Mo_paper_16 : decode b_Mo_paper 16 = .ok (.getfield 21, 3) := by decide +kernel
theorem d_Mo_paper_19 : decode b_Mo_paper 19 = .ok (.iload_n 1, 1) := by decide +kernel
theorem d_Mo_paper_20 : decode b_Mo_paper 20 = .ok (.aaload, 1) := by decide +kernel
theorem d_Mo_paper_21 : decode b_Mo_paper 21 = .ok (.getfield 227, 3) := by decide +kernel
theorem d_Mo_paper_24 : decode b_Mo_paper 24 = .ok (.ireturn, 1) := by decide +kernel
theorem q_Mo_paper : px_y y_Mo_paper 1 := by unfold px_y; decide +kernel
set_option maxHeartbeats 4000000 in
set_option maxRecDepth 100000 in
theorem c_mo_paper (l : Launch) (D : va_G) (cs : Nat → ClassId) (mo : Nat) (mr : Nat → Nat) (md : Nat → Nat → Int32) (mf : Nat → Int32) (hq : Nat → Nat) (qr : Nat → Nat → Nat) (QO : Nat → Option Nat) (QF : Nat → Nat → Int32) (QA : Nat → Nat → Nat → Int32) (PG : Nat → Pgs) (p0 : Int32)  (hpn : PrN QF) (hpg : PgA PG) : MetI l y_Mo_paper b_Mo_paper 2 (.int) D cs 1 40 (0) (0) [.ref mo, .int p0] [wd_Mo cs mo mr (fun _ => none) mf md (gMo PG hq), fm 13 (fPr cs hq qr QO QF QA), fm 8 (fPg cs PG)] (fun _ => True) (fun v ps => ∃ (mf' : Nat → Int32), (ps = [wd_Mo cs mo mr (fun _ => none) mf' md (gMo PG hq), fm 13 (fPr cs hq qr QO QF QA), fm 8 (fPg cs PG)]) ∧ ((mf' 2).toInt = (mf 2).toInt) ∧ ((mf' 3).toInt = (mf 3).toInt) ∧ ((mf' 10).toInt = (mf 10).toInt)) := by
  refine px_enter (by decide) (Nat.le_of_ble_eq_true rfl) ?_
  intro p e s m below meth c A ls hAe S hr hlk hnm hA hT hX hw hl
  have hl : lv_has ls 2 [(0, .ref mo), (1, .int p0)] := hl
  have lp0 := Int32.le_toInt p0
  have up0 := Int32.toInt_lt p0
  have cst0 : (0 : Int32).toInt = 0 := rfl
  refine lv_aload_n S.x S.b d_Mo_paper_0 rfl (lv_at hl 0 rfl) ?_
  refine lv_iload_n S.x S.b d_Mo_paper_1 rfl (lv_at hl 1 rfl) ?_
  refine px_calli (pr := [wd_Mo cs mo mr (fun _ => none) mf md (gMo PG hq), fm 13 (fPr cs hq qr QO QF QA), fm 8 (fPg cs PG)]) (px_runS (As := [.int p0]) (rest := [.ref mo]) S (c_mo_isNone l D cs  p0   _) hT (pr := [wd_Mo cs mo mr (fun _ => none) mf md (gMo PG hq), fm 13 (fPr cs hq qr QO QF QA), fm 8 (fPg cs PG)]) (pcs := []) hw px_X.tt m14_180 m14_178 m14_179 m1_20 q_Mo_isNone ⟨Nat.le_of_ble_eq_true rfl, Nat.le_of_ble_eq_true rfl⟩ hl.1 rfl (Nat.le_of_ble_eq_true rfl) d_Mo_paper_2 ⟨Nat.le_of_ble_eq_true rfl, Nat.le_of_ble_eq_true rfl⟩) hw hA (fun v2 p1 H locs hp1 hw => ?_)
  obtain ⟨rfl, e3, e4, e5⟩ := hp1
  have e3 : 0 ≤ v2.toInt := e3
  have e4 : v2.toInt ≤ 1 := e4
  have e5 : v2.toInt = 0 → 0 ≤ p0.toInt ∧ p0.toInt < 13 := e5
  have hw : pw D A s.heap H locs [wd_Mo cs mo mr (fun _ => none) mf md (gMo PG hq), fm 13 (fPr cs hq qr QO QF QA), fm 8 (fPg cs PG)] := hw
  have lv2 := Int32.le_toInt v2
  have uv2 := Int32.toInt_lt v2
  refine px_calli (pr := []) (px_runV (As := [.int v2]) (rest := []) S (c_mo_refused l D cs mo mr md mf hq qr QO QF QA PG v2  (show 0 ≤ v2.toInt from by first | exact e3 | omega) (show v2.toInt ≤ 1 from by first | exact e4 | omega) hpn hpg _) hT (pr := []) (pcs := [wd_Mo cs mo mr (fun _ => none) mf md (gMo PG hq), fm 13 (fPr cs hq qr QO QF QA), fm 8 (fPg cs PG)]) hw px_X.tt (px_recv hT hw 0 0 rfl rfl rfl) m14_184 m14_181 m14_183 ms_17_7 m1_20 q_Mo_refused ⟨Nat.le_of_ble_eq_true rfl, Nat.le_of_ble_eq_true rfl⟩ hl.1 rfl (Nat.le_of_ble_eq_true rfl) d_Mo_paper_5 ⟨Nat.le_of_ble_eq_true rfl, Nat.le_of_ble_eq_true rfl⟩) hw hA (fun v9 p8 H locs hp8 hw => ?_)
  obtain ⟨mf7, rfl, e10, e11, e12, e13, e14⟩ := hp8
  have e10 : (mf7 2).toInt = (mf 2).toInt := e10
  have e11 : (mf7 3).toInt = (mf 3).toInt := e11
  have e12 : (mf7 10).toInt = (mf 10).toInt := e12
  have e13 : v9.toInt = v2.toInt := e13
  have e14 : (mf7 0).toInt = v2.toInt := e14
  have hw : pw D A s.heap H locs [wd_Mo cs mo mr (fun _ => none) mf7 md (gMo PG hq), fm 13 (fPr cs hq qr QO QF QA), fm 8 (fPg cs PG)] := hw
  have lv9 := Int32.le_toInt v9
  have uv9 := Int32.toInt_lt v9
  refine lv_if_eq (tgt := 15) S.x S.b d_Mo_paper_8 (by decide) (fun c15 => ?_) (fun c15 => ?_)
  · have nc15 : v9.toInt = (0 : Int) := (i_eq (x := v9) (y := 0)).mp c15
    refine lv_aload_n S.x S.b d_Mo_paper_15 rfl (lv_at hl 0 rfl) ?_
    refine px_get S k_Mo hT hw 0 0 5 (v := .ref (mr 5)) rfl rfl rfl (by decide) m11_83 d_Mo_paper_16 ?_
    refine lv_iload_n S.x S.b d_Mo_paper_19 rfl (lv_at hl 1 rfl) ?_
    refine px_aaldS S hT hw 0 3 10 (n := 13) (f := ((gMo PG hq) 5)) rfl rfl rfl (x := p0) (vp_in_iff.mpr (by first | exact oz_e25e63ef09 e13 nc15 e3 e5 | (constructor <;> omega))) (sk := (hq p0.toNatClampNeg)) rfl d_Mo_paper_20 ?_
    have hw : pw D A s.heap _ _ [wd_Mo cs mo mr (fun _ => none) mf7 md (gMo PG hq), fm 8 (fPg cs PG), fm 13 (fPr cs hq qr QO QF QA)] := hw.sub [0, 2, 1] rfl rfl
    have hc17 := cl_nat (x := p0) (by first | exact oz_016f458179 hc17 | omega)
    have hi17 : p0.toNatClampNeg < 13 := by first | exact oz_1a2df8431c hc17 e13 nc15 e3 e5 | omega
    have hw : pw D A s.heap _ _ [wd_Mo cs mo mr (fun _ => none) mf7 md (gMo PG hq), fm 8 (fPg cs PG), fo 13 (fPr cs hq qr QO QF QA) p0.toNatClampNeg, wd_Mpr cs (hq p0.toNatClampNeg) (qr p0.toNatClampNeg) (fun _ => QO p0.toNatClampNeg) (QF p0.toNatClampNeg) (QA p0.toNatClampNeg) (fun _ _ => none)] := fm_out (pr := [wd_Mo cs mo mr (fun _ => none) mf7 md (gMo PG hq), fm 8 (fPg cs PG)]) (T := fPr cs hq qr QO QF QA) hw hi17
    have hpb17 := hpn p0.toNatClampNeg hi17
    unfold PsB at hpb17
    refine px_get S k_Mpr hT hw 3 0 24 (v := .int ((QF p0.toNatClampNeg) 24)) rfl rfl rfl (by decide) m11_22 d_Mo_paper_21 ?_
    have hw : pw D A s.heap _ _ [wd_Mo cs mo mr (fun _ => none) mf7 md (gMo PG hq), fm 8 (fPg cs PG), fm 13 (fPr cs hq qr QO QF QA)] := fm_back (pr := [wd_Mo cs mo mr (fun _ => none) mf7 md (gMo PG hq), fm 8 (fPg cs PG)]) (T := fPr cs hq qr QO QF QA) hw hi17
    have hw : pw D A s.heap _ _ [wd_Mo cs mo mr (fun _ => none) mf7 md (gMo PG hq), fm 13 (fPr cs hq qr QO QF QA), fm 8 (fPg cs PG)] := hw.sub [0, 2, 1] rfl rfl
    exact px_iret (v := ((QF p0.toNatClampNeg) 24)) S hr rfl hlk hAe hw (Nat.le_of_ble_eq_true rfl) (Nat.le_of_ble_eq_true rfl) (⟨mf7, rfl, (show (mf7 2).toInt = (mf 2).toInt from by first | exact e10 | omega), (show (mf7 3).toInt = (mf 3).toInt from by first | exact e11 | omega), (show (mf7 10).toInt = (mf 10).toInt from by first | exact e12 | omega)⟩) d_Mo_paper_24
  · have nc15 : ¬ v9.toInt = (0 : Int) := mt (i_eq (x := v9) (y := 0)).mpr c15
    refine lv_iconst (v := 0) S.x S.b d_Mo_paper_11 (by decide) ?_
    refine lv_goto (tgt := 24) S.x S.b d_Mo_paper_12 (by decide) ?_
    exact px_iret (v := 0) S hr rfl hlk hAe hw (Nat.le_of_ble_eq_true rfl) (Nat.le_of_ble_eq_true rfl) (⟨mf7, rfl, (show (mf7 2).toInt = (mf 2).toInt from by first | exact e10 | omega), (show (mf7 3).toInt = (mf 3).toInt from by first | exact e11 | omega), (show (mf7 10).toInt = (mf 10).toInt from by first | exact e12 | omega)⟩) d_Mo_paper_24
abbrev b_Mo_paperAt : ByteArray := prog_14_method_34_code
def y_Mo_paperAt : MethodName := ⟨"HomeSystemModel", "paperAt", "(II)I"⟩
theorem d_Mo_paperAt_0 : decode b_Mo_paperAt 0 = .ok (.aload_n 0, 1) := by decide +kernel
theorem d_Mo_paperAt_1 : decode b_Mo_paperAt 1 = .ok (.iload_n 1, 1) := by decide +kernel
theorem d_Mo_paperAt_2 : decode b_Mo_paperAt 2 = .ok (.invokestatic 233, 3) := by decide +kernel
theorem d_Mo_paperAt_5 : decode b_Mo_paperAt 5 = .ok (.ifCond .ne 27, 3) := by decide +kernel
theorem d_Mo_paperAt_8 : decode b_Mo_paperAt 8 = .ok (.iload_n 2, 1) := by decide +kernel
theorem d_Mo_paperAt_9 : decode b_Mo_paperAt 9 = .ok (.ifCond .lt 23, 3) := by decide +kernel
theorem d_Mo_paperAt_12 : decode b_Mo_paperAt 12 = .ok (.iload_n 2, 1) := by decide +kernel
theorem d_Mo_paperAt_13 : decode b_Mo_paperAt 13 = .ok (.sipush 255, 3) := by decide +kernel
theorem d_Mo_paperAt_16 : decode b_Mo_paperAt 16 = .ok (.if_icmp .gt 16, 3) := by decide +kernel
theorem d_Mo_paperAt_19 : decode b_Mo_paperAt 19 = .ok (.iload_n 2, 1) := by decide +kernel
theorem d_Mo_paperAt_20 : decode b_Mo_paperAt 20 = .ok (.aload_n 0, 1) := by decide +kernel
theorem d_Mo_paperAt_21 : decode b_Mo_paperAt 21 = .ok (.getfield 21, 3) := by decide +kernel
theorem d_Mo_paperAt_24 : decode b_Mo_paperAt 24 = .ok (.iload_n 1, 1) := by decide +kernel
theorem d_Mo_paperAt_25 : decode b_Mo_paperAt 25 = .ok (.aaload, 1) := by decide +kernel
theorem d_Mo_paperAt_26 : decode b_Mo_paperAt 26 = .ok (.getfield 227, 3) := by decide +kernel
theorem d_Mo_paperAt_29 : decode b_Mo_paperAt 29 = .ok (.if_icmp .lt 7, 3) := by decide +kernel
theorem d_Mo_paperAt_32 : decode b_Mo_paperAt 32 = .ok (.iconst 1, 1) := by decide +kernel
theorem d_Mo_paperAt_33 : decode b_Mo_paperAt 33 = .ok (.goto 4, 3) := by decide +kernel
theorem d_Mo_paperAt_36 : decode b_Mo_paperAt 36 = .ok (.iconst 0, 1) := by decide +kernel
theorem d_Mo_paperAt_37 : decode b_Mo_paperAt 37 = .ok (.invokevirtual 236, 3) := by decide +kernel
theorem d_Mo_paperAt_40 : decode b_Mo_paperAt 40 = .ok (.ifCond .eq 7, 3) := by decide +kernel
theorem d_Mo_paperAt_43 : decode b_Mo_paperAt 43 = .ok (.iconst 0, 1) := by decide +kernel
theorem d_Mo_paperAt_44 : decode b_Mo_paperAt 44 = .ok (.goto 14, 3) := by decide +kernel
theorem d_Mo_paperAt_47 : decode b_Mo_paperAt 47 = .ok (.aload_n 0, 1) := by decide +kernel
theorem d_Mo_paperAt_48 : decode b_Mo_paperAt 48 = .ok (.getfield 21, 3) := by decide +kernel
theorem d_Mo_paperAt_51 : decode b_Mo_paperAt 51 = .ok (.iload_n 1, 1) := by decide +kernel
theorem d_Mo_paperAt_52 : decode b_Mo_paperAt 52 = .ok (.aaload, 1) := by decide +kernel
theorem d_Mo_paperAt_53 : decode b_Mo_paperAt 53 = .ok (.getfield 240, 3) := by decide +kernel
theorem d_Mo_paperAt_56 : decode b_Mo_paperAt 56 = .ok (.iload_n 2, 1) := by decide +kernel
theorem d_Mo_paperAt_57 : decode b_Mo_paperAt 57 = .ok (.iaload, 1) := by decide +kernel
theorem d_Mo_paperAt_58 : decode b_Mo_paperAt 58 = .ok (.ireturn, 1) := by decide +kernel
theorem q_Mo_paperAt : px_y y_Mo_paperAt 2 := by unfold px_y; decide +kernel
set_option maxHeartbeats 4000000 in
set_option maxRecDepth 100000 in
theorem c_mo_paperAt (l : Launch) (D : va_G) (cs : Nat → ClassId) (mo : Nat) (mr : Nat → Nat) (md : Nat → Nat → Int32) (mf : Nat → Int32) (hq : Nat → Nat) (qr : Nat → Nat → Nat) (QO : Nat → Option Nat) (QF : Nat → Nat → Int32) (QA : Nat → Nat → Nat → Int32) (PG : Nat → Pgs) (p0 p1 : Int32)  (hpn : PrN QF) (hpg : PgA PG) : MetI l y_Mo_paperAt b_Mo_paperAt 3 (.int) D cs 1 40 (0) (0) [.ref mo, .int p0, .int p1] [wd_Mo cs mo mr (fun _ => none) mf md (gMo PG hq), fm 13 (fPr cs hq qr QO QF QA), fm 8 (fPg cs PG)] (fun _ => True) (fun v ps => ∃ (mf' : Nat → Int32), (ps = [wd_Mo cs mo mr (fun _ => none) mf' md (gMo PG hq), fm 13 (fPr cs hq qr QO QF QA), fm 8 (fPg cs PG)]) ∧ ((mf' 2).toInt = (mf 2).toInt) ∧ ((mf' 3).toInt = (mf 3).toInt) ∧ ((mf' 10).toInt = (mf 10).toInt)) := by
  refine px_enter (by decide) (Nat.le_of_ble_eq_true rfl) ?_
  intro p e s m below meth c A ls hAe S hr hlk hnm hA hT hX hw hl
  have hl : lv_has ls 3 [(0, .ref mo), (1, .int p0), (2, .int p1)] := hl
  have lp0 := Int32.le_toInt p0
  have up0 := Int32.toInt_lt p0
  have lp1 := Int32.le_toInt p1
  have up1 := Int32.toInt_lt p1
  have cst0 : (0 : Int32).toInt = 0 := rfl
  have cst1 : (1 : Int32).toInt = 1 := rfl
  have cst255 : (255 : Int32).toInt = 255 := rfl
  refine lv_aload_n S.x S.b d_Mo_paperAt_0 rfl (lv_at hl 0 rfl) ?_
  refine lv_iload_n S.x S.b d_Mo_paperAt_1 rfl (lv_at hl 1 rfl) ?_
  refine px_calli (pr := [wd_Mo cs mo mr (fun _ => none) mf md (gMo PG hq), fm 13 (fPr cs hq qr QO QF QA), fm 8 (fPg cs PG)]) (px_runS (As := [.int p0]) (rest := [.ref mo]) S (c_mo_isNone l D cs  p0   _) hT (pr := [wd_Mo cs mo mr (fun _ => none) mf md (gMo PG hq), fm 13 (fPr cs hq qr QO QF QA), fm 8 (fPg cs PG)]) (pcs := []) hw px_X.tt m14_180 m14_178 m14_179 m1_20 q_Mo_isNone ⟨Nat.le_of_ble_eq_true rfl, Nat.le_of_ble_eq_true rfl⟩ hl.1 rfl (Nat.le_of_ble_eq_true rfl) d_Mo_paperAt_2 ⟨Nat.le_of_ble_eq_true rfl, Nat.le_of_ble_eq_true rfl⟩) hw hA (fun v2 p1 H locs hp1 hw => ?_)
  obtain ⟨rfl, e3, e4, e5⟩ := hp1
  have e3 : 0 ≤ v2.toInt := e3
  have e4 : v2.toInt ≤ 1 := e4
  have e5 : v2.toInt = 0 → 0 ≤ p0.toInt ∧ p0.toInt < 13 := e5
  have hw : pw D A s.heap H locs [wd_Mo cs mo mr (fun _ => none) mf md (gMo PG hq), fm 13 (fPr cs hq qr QO QF QA), fm 8 (fPg cs PG)] := hw
  have lv2 := Int32.le_toInt v2
  have uv2 := Int32.toInt_lt v2
  refine lv_if_ne (tgt := 32) S.x S.b d_Mo_paperAt_5 (by decide) (fun c6 => ?_) (fun c6 => ?_)
  · have nc6 : ¬ v2.toInt = (0 : Int) := mt (i_eq (x := v2) (y := 0)).mpr c6
    refine lv_iconst (v := 1) S.x S.b d_Mo_paperAt_32 (by decide) ?_
    refine lv_goto (tgt := 37) S.x S.b d_Mo_paperAt_33 (by decide) ?_
    refine px_calli (pr := []) (px_runV (As := [.int 1]) (rest := []) S (c_mo_refused l D cs mo mr md mf hq qr QO QF QA PG 1  (show 0 ≤ (1 : Int) from by first | exact oz_19c3a41681 | omega) (show (1 : Int) ≤ 1 from by first | exact oz_f9181dc4bb | omega) hpn hpg _) hT (pr := []) (pcs := [wd_Mo cs mo mr (fun _ => none) mf md (gMo PG hq), fm 13 (fPr cs hq qr QO QF QA), fm 8 (fPg cs PG)]) hw px_X.tt (px_recv hT hw 0 0 rfl rfl rfl) m14_184 m14_181 m14_183 ms_17_7 m1_20 q_Mo_refused ⟨Nat.le_of_ble_eq_true rfl, Nat.le_of_ble_eq_true rfl⟩ hl.1 rfl (Nat.le_of_ble_eq_true rfl) d_Mo_paperAt_37 ⟨Nat.le_of_ble_eq_true rfl, Nat.le_of_ble_eq_true rfl⟩) hw hA (fun v11 p10 H locs hp10 hw => ?_)
    obtain ⟨mf9, rfl, e12, e13, e14, e15, e16⟩ := hp10
    have e12 : (mf9 2).toInt = (mf 2).toInt := e12
    have e13 : (mf9 3).toInt = (mf 3).toInt := e13
    have e14 : (mf9 10).toInt = (mf 10).toInt := e14
    have e15 : v11.toInt = (1 : Int) := e15
    have e16 : (mf9 0).toInt = (1 : Int) := e16
    have hw : pw D A s.heap H locs [wd_Mo cs mo mr (fun _ => none) mf9 md (gMo PG hq), fm 13 (fPr cs hq qr QO QF QA), fm 8 (fPg cs PG)] := hw
    have lv11 := Int32.le_toInt v11
    have uv11 := Int32.toInt_lt v11
    refine lv_if_eq (tgt := 47) S.x S.b d_Mo_paperAt_40 (by decide) (fun c17 => ?_) (fun c17 => ?_)
    · have nc17 : v11.toInt = (0 : Int) := (i_eq (x := v11) (y := 0)).mp c17
      refine lv_aload_n S.x S.b d_Mo_paperAt_47 rfl (lv_at hl 0 rfl) ?_
      refine px_get S k_Mo hT hw 0 0 5 (v := .ref (mr 5)) rfl rfl rfl (by decide) m11_83 d_Mo_paperAt_48 ?_
      refine lv_iload_n S.x S.b d_Mo_paperAt_51 rfl (lv_at hl 1 rfl) ?_
      refine px_aaldS S hT hw 0 3 10 (n := 13) (f := ((gMo PG hq) 5)) rfl rfl rfl (x := p0) (vp_in_iff.mpr (by constructor <;> omega)) (sk := (hq p0.toNatClampNeg)) rfl d_Mo_paperAt_52 ?_
      have hw : pw D A s.heap _ _ [wd_Mo cs mo mr (fun _ => none) mf9 md (gMo PG hq), fm 8 (fPg cs PG), fm 13 (fPr cs hq qr QO QF QA)] := hw.sub [0, 2, 1] rfl rfl
      have hc19 := cl_nat (x := p0) (by first | exact oz_016f458179 hc19 | omega)
      have hi19 : p0.toNatClampNeg < 13 := by omega
      have hw : pw D A s.heap _ _ [wd_Mo cs mo mr (fun _ => none) mf9 md (gMo PG hq), fm 8 (fPg cs PG), fo 13 (fPr cs hq qr QO QF QA) p0.toNatClampNeg, wd_Mpr cs (hq p0.toNatClampNeg) (qr p0.toNatClampNeg) (fun _ => QO p0.toNatClampNeg) (QF p0.toNatClampNeg) (QA p0.toNatClampNeg) (fun _ _ => none)] := fm_out (pr := [wd_Mo cs mo mr (fun _ => none) mf9 md (gMo PG hq), fm 8 (fPg cs PG)]) (T := fPr cs hq qr QO QF QA) hw hi19
      have hpb19 := hpn p0.toNatClampNeg hi19
      unfold PsB at hpb19
      refine px_get S k_Mpr hT hw 3 0 25 (v := .ref ((qr p0.toNatClampNeg) 25)) rfl rfl rfl (by decide) m11_24 d_Mo_paperAt_53 ?_
      refine lv_iload_n S.x S.b d_Mo_paperAt_56 rfl (lv_at hl 2 rfl) ?_
      refine px_iald S hT hw 3 10 (n := 256) (f := ((QA p0.toNatClampNeg) 25)) rfl (ga_Mpr_25 _ _ _ _ _ _ _) (x := p1) (vp_in_iff.mpr (by constructor <;> omega)) d_Mo_paperAt_57 ?_
      refine lv_topi (fun z20 ez20 => ?_)
      have lz20 := Int32.le_toInt z20
      have uz20 := Int32.toInt_lt z20
      have hw : pw D A s.heap _ _ [wd_Mo cs mo mr (fun _ => none) mf9 md (gMo PG hq), fm 8 (fPg cs PG), fm 13 (fPr cs hq qr QO QF QA)] := fm_back (pr := [wd_Mo cs mo mr (fun _ => none) mf9 md (gMo PG hq), fm 8 (fPg cs PG)]) (T := fPr cs hq qr QO QF QA) hw hi19
      have hw : pw D A s.heap _ _ [wd_Mo cs mo mr (fun _ => none) mf9 md (gMo PG hq), fm 13 (fPr cs hq qr QO QF QA), fm 8 (fPg cs PG)] := hw.sub [0, 2, 1] rfl rfl
      exact px_iret (v := z20) S hr rfl hlk hAe hw (Nat.le_of_ble_eq_true rfl) (Nat.le_of_ble_eq_true rfl) (⟨mf9, rfl, (show (mf9 2).toInt = (mf 2).toInt from by first | exact e12 | omega), (show (mf9 3).toInt = (mf 3).toInt from by first | exact e13 | omega), (show (mf9 10).toInt = (mf 10).toInt from by first | exact e14 | omega)⟩) d_Mo_paperAt_58
    · have nc17 : ¬ v11.toInt = (0 : Int) := mt (i_eq (x := v11) (y := 0)).mpr c17
      refine lv_iconst (v := 0) S.x S.b d_Mo_paperAt_43 (by decide) ?_
      refine lv_goto (tgt := 58) S.x S.b d_Mo_paperAt_44 (by decide) ?_
      exact px_iret (v := 0) S hr rfl hlk hAe hw (Nat.le_of_ble_eq_true rfl) (Nat.le_of_ble_eq_true rfl) (⟨mf9, rfl, (show (mf9 2).toInt = (mf 2).toInt from by first | exact e12 | omega), (show (mf9 3).toInt = (mf 3).toInt from by first | exact e13 | omega), (show (mf9 10).toInt = (mf 10).toInt from by first | exact e14 | omega)⟩) d_Mo_paperAt_58
  · have nc6 : v2.toInt = (0 : Int) := (i_eq (x := v2) (y := 0)).mp c6
    refine lv_iload_n S.x S.b d_Mo_paperAt_8 rfl (lv_at hl 2 rfl) ?_
    refine lv_if_lt (tgt := 32) S.x S.b d_Mo_paperAt_9 (by decide) (fun c21 => ?_) (fun c21 => ?_)
    · have nc21 : p1.toInt < (0 : Int) := (i_lt (x := p1) (y := 0)).mp c21
      refine lv_iconst (v := 1) S.x S.b d_Mo_paperAt_32 (by decide) ?_
      refine lv_goto (tgt := 37) S.x S.b d_Mo_paperAt_33 (by decide) ?_
      refine px_calli (pr := []) (px_runV (As := [.int 1]) (rest := []) S (c_mo_refused l D cs mo mr md mf hq qr QO QF QA PG 1  (show 0 ≤ (1 : Int) from by first | exact oz_19c3a41681 | omega) (show (1 : Int) ≤ 1 from by first | exact oz_f9181dc4bb | omega) hpn hpg _) hT (pr := []) (pcs := [wd_Mo cs mo mr (fun _ => none) mf md (gMo PG hq), fm 13 (fPr cs hq qr QO QF QA), fm 8 (fPg cs PG)]) hw px_X.tt (px_recv hT hw 0 0 rfl rfl rfl) m14_184 m14_181 m14_183 ms_17_7 m1_20 q_Mo_refused ⟨Nat.le_of_ble_eq_true rfl, Nat.le_of_ble_eq_true rfl⟩ hl.1 rfl (Nat.le_of_ble_eq_true rfl) d_Mo_paperAt_37 ⟨Nat.le_of_ble_eq_true rfl, Nat.le_of_ble_eq_true rfl⟩) hw hA (fun v26 p25 H locs hp25 hw => ?_)
      obtain ⟨mf24, rfl, e27, e28, e29, e30, e31⟩ := hp25
      have e27 : (mf24 2).toInt = (mf 2).toInt := e27
      have e28 : (mf24 3).toInt = (mf 3).toInt := e28
      have e29 : (mf24 10).toInt = (mf 10).toInt := e29
      have e30 : v26.toInt = (1 : Int) := e30
      have e31 : (mf24 0).toInt = (1 : Int) := e31
      have hw : pw D A s.heap H locs [wd_Mo cs mo mr (fun _ => none) mf24 md (gMo PG hq), fm 13 (fPr cs hq qr QO QF QA), fm 8 (fPg cs PG)] := hw
      have lv26 := Int32.le_toInt v26
      have uv26 := Int32.toInt_lt v26
      refine lv_if_eq (tgt := 47) S.x S.b d_Mo_paperAt_40 (by decide) (fun c32 => ?_) (fun c32 => ?_)
      · have nc32 : v26.toInt = (0 : Int) := (i_eq (x := v26) (y := 0)).mp c32
        refine lv_aload_n S.x S.b d_Mo_paperAt_47 rfl (lv_at hl 0 rfl) ?_
        refine px_get S k_Mo hT hw 0 0 5 (v := .ref (mr 5)) rfl rfl rfl (by decide) m11_83 d_Mo_paperAt_48 ?_
        refine lv_iload_n S.x S.b d_Mo_paperAt_51 rfl (lv_at hl 1 rfl) ?_
        refine px_aaldS S hT hw 0 3 10 (n := 13) (f := ((gMo PG hq) 5)) rfl rfl rfl (x := p0) (vp_in_iff.mpr (by first | exact oz_a38e3fbd8b nc6 e3 e5 | (constructor <;> omega))) (sk := (hq p0.toNatClampNeg)) rfl d_Mo_paperAt_52 ?_
        have hw : pw D A s.heap _ _ [wd_Mo cs mo mr (fun _ => none) mf24 md (gMo PG hq), fm 8 (fPg cs PG), fm 13 (fPr cs hq qr QO QF QA)] := hw.sub [0, 2, 1] rfl rfl
        have hc34 := cl_nat (x := p0) (by first | exact oz_016f458179 hc34 | omega)
        have hi34 : p0.toNatClampNeg < 13 := by first | exact oz_e07a039f23 hc34 nc6 e3 e5 | omega
        have hw : pw D A s.heap _ _ [wd_Mo cs mo mr (fun _ => none) mf24 md (gMo PG hq), fm 8 (fPg cs PG), fo 13 (fPr cs hq qr QO QF QA) p0.toNatClampNeg, wd_Mpr cs (hq p0.toNatClampNeg) (qr p0.toNatClampNeg) (fun _ => QO p0.toNatClampNeg) (QF p0.toNatClampNeg) (QA p0.toNatClampNeg) (fun _ _ => none)] := fm_out (pr := [wd_Mo cs mo mr (fun _ => none) mf24 md (gMo PG hq), fm 8 (fPg cs PG)]) (T := fPr cs hq qr QO QF QA) hw hi34
        have hpb34 := hpn p0.toNatClampNeg hi34
        unfold PsB at hpb34
        refine px_get S k_Mpr hT hw 3 0 25 (v := .ref ((qr p0.toNatClampNeg) 25)) rfl rfl rfl (by decide) m11_24 d_Mo_paperAt_53 ?_
        refine lv_iload_n S.x S.b d_Mo_paperAt_56 rfl (lv_at hl 2 rfl) ?_
        refine px_iald S hT hw 3 10 (n := 256) (f := ((QA p0.toNatClampNeg) 25)) rfl (ga_Mpr_25 _ _ _ _ _ _ _) (x := p1) (vp_in_iff.mpr (by constructor <;> omega)) d_Mo_paperAt_57 ?_
        refine lv_topi (fun z35 ez35 => ?_)
        have lz35 := Int32.le_toInt z35
        have uz35 := Int32.toInt_lt z35
        have hw : pw D A s.heap _ _ [wd_Mo cs mo mr (fun _ => none) mf24 md (gMo PG hq), fm 8 (fPg cs PG), fm 13 (fPr cs hq qr QO QF QA)] := fm_back (pr := [wd_Mo cs mo mr (fun _ => none) mf24 md (gMo PG hq), fm 8 (fPg cs PG)]) (T := fPr cs hq qr QO QF QA) hw hi34
        have hw : pw D A s.heap _ _ [wd_Mo cs mo mr (fun _ => none) mf24 md (gMo PG hq), fm 13 (fPr cs hq qr QO QF QA), fm 8 (fPg cs PG)] := hw.sub [0, 2, 1] rfl rfl
        exact px_iret (v := z35) S hr rfl hlk hAe hw (Nat.le_of_ble_eq_true rfl) (Nat.le_of_ble_eq_true rfl) (⟨mf24, rfl, (show (mf24 2).toInt = (mf 2).toInt from by first | exact e27 | omega), (show (mf24 3).toInt = (mf 3).toInt from by first | exact e28 | omega), (show (mf24 10).toInt = (mf 10).toInt from by first | exact e29 | omega)⟩) d_Mo_paperAt_58
      · have nc32 : ¬ v26.toInt = (0 : Int) := mt (i_eq (x := v26) (y := 0)).mpr c32
        refine lv_iconst (v := 0) S.x S.b d_Mo_paperAt_43 (by decide) ?_
        refine lv_goto (tgt := 58) S.x S.b d_Mo_paperAt_44 (by decide) ?_
        exact px_iret (v := 0) S hr rfl hlk hAe hw (Nat.le_of_ble_eq_true rfl) (Nat.le_of_ble_eq_true rfl) (⟨mf24, rfl, (show (mf24 2).toInt = (mf 2).toInt from by first | exact e27 | omega), (show (mf24 3).toInt = (mf 3).toInt from by first | exact e28 | omega), (show (mf24 10).toInt = (mf 10).toInt from by first | exact e29 | omega)⟩) d_Mo_paperAt_58
    · have nc21 : ¬ p1.toInt < (0 : Int) := mt (i_lt (x := p1) (y := 0)).mpr c21
      refine lv_iload_n S.x S.b d_Mo_paperAt_12 rfl (lv_at hl 2 rfl) ?_
      refine lv_sipush (v := 255) S.x S.b d_Mo_paperAt_13 (by decide) ?_
      refine lv_icmp_gt (tgt := 32) S.x S.b d_Mo_paperAt_16 (by decide) (fun c36 => ?_) (fun c36 => ?_)
      · have nc36 : (255 : Int) < p1.toInt := (i_lt (x := 255) (y := p1)).mp c36
        refine lv_iconst (v := 1) S.x S.b d_Mo_paperAt_32 (by decide) ?_
        refine lv_goto (tgt := 37) S.x S.b d_Mo_paperAt_33 (by decide) ?_
        refine px_calli (pr := []) (px_runV (As := [.int 1]) (rest := []) S (c_mo_refused l D cs mo mr md mf hq qr QO QF QA PG 1  (show 0 ≤ (1 : Int) from by first | exact oz_19c3a41681 | omega) (show (1 : Int) ≤ 1 from by first | exact oz_f9181dc4bb | omega) hpn hpg _) hT (pr := []) (pcs := [wd_Mo cs mo mr (fun _ => none) mf md (gMo PG hq), fm 13 (fPr cs hq qr QO QF QA), fm 8 (fPg cs PG)]) hw px_X.tt (px_recv hT hw 0 0 rfl rfl rfl) m14_184 m14_181 m14_183 ms_17_7 m1_20 q_Mo_refused ⟨Nat.le_of_ble_eq_true rfl, Nat.le_of_ble_eq_true rfl⟩ hl.1 rfl (Nat.le_of_ble_eq_true rfl) d_Mo_paperAt_37 ⟨Nat.le_of_ble_eq_true rfl, Nat.le_of_ble_eq_true rfl⟩) hw hA (fun v41 p40 H locs hp40 hw => ?_)
        obtain ⟨mf39, rfl, e42, e43, e44, e45, e46⟩ := hp40
        have e42 : (mf39 2).toInt = (mf 2).toInt := e42
        have e43 : (mf39 3).toInt = (mf 3).toInt := e43
        have e44 : (mf39 10).toInt = (mf 10).toInt := e44
        have e45 : v41.toInt = (1 : Int) := e45
        have e46 : (mf39 0).toInt = (1 : Int) := e46
        have hw : pw D A s.heap H locs [wd_Mo cs mo mr (fun _ => none) mf39 md (gMo PG hq), fm 13 (fPr cs hq qr QO QF QA), fm 8 (fPg cs PG)] := hw
        have lv41 := Int32.le_toInt v41
        have uv41 := Int32.toInt_lt v41
        refine lv_if_eq (tgt := 47) S.x S.b d_Mo_paperAt_40 (by decide) (fun c47 => ?_) (fun c47 => ?_)
        · have nc47 : v41.toInt = (0 : Int) := (i_eq (x := v41) (y := 0)).mp c47
          refine lv_aload_n S.x S.b d_Mo_paperAt_47 rfl (lv_at hl 0 rfl) ?_
          refine px_get S k_Mo hT hw 0 0 5 (v := .ref (mr 5)) rfl rfl rfl (by decide) m11_83 d_Mo_paperAt_48 ?_
          refine lv_iload_n S.x S.b d_Mo_paperAt_51 rfl (lv_at hl 1 rfl) ?_
          refine px_aaldS S hT hw 0 3 10 (n := 13) (f := ((gMo PG hq) 5)) rfl rfl rfl (x := p0) (vp_in_iff.mpr (by first | exact oz_a38e3fbd8b nc6 e3 e5 | (constructor <;> omega))) (sk := (hq p0.toNatClampNeg)) rfl d_Mo_paperAt_52 ?_
          have hw : pw D A s.heap _ _ [wd_Mo cs mo mr (fun _ => none) mf39 md (gMo PG hq), fm 8 (fPg cs PG), fm 13 (fPr cs hq qr QO QF QA)] := hw.sub [0, 2, 1] rfl rfl
          have hc49 := cl_nat (x := p0) (by first | exact oz_016f458179 hc49 | omega)
          have hi49 : p0.toNatClampNeg < 13 := by first | exact oz_e07a039f23 hc49 nc6 e3 e5 | omega
          have hw : pw D A s.heap _ _ [wd_Mo cs mo mr (fun _ => none) mf39 md (gMo PG hq), fm 8 (fPg cs PG), fo 13 (fPr cs hq qr QO QF QA) p0.toNatClampNeg, wd_Mpr cs (hq p0.toNatClampNeg) (qr p0.toNatClampNeg) (fun _ => QO p0.toNatClampNeg) (QF p0.toNatClampNeg) (QA p0.toNatClampNeg) (fun _ _ => none)] := fm_out (pr := [wd_Mo cs mo mr (fun _ => none) mf39 md (gMo PG hq), fm 8 (fPg cs PG)]) (T := fPr cs hq qr QO QF QA) hw hi49
          have hpb49 := hpn p0.toNatClampNeg hi49
          unfold PsB at hpb49
          refine px_get S k_Mpr hT hw 3 0 25 (v := .ref ((qr p0.toNatClampNeg) 25)) rfl rfl rfl (by decide) m11_24 d_Mo_paperAt_53 ?_
          refine lv_iload_n S.x S.b d_Mo_paperAt_56 rfl (lv_at hl 2 rfl) ?_
          refine px_iald S hT hw 3 10 (n := 256) (f := ((QA p0.toNatClampNeg) 25)) rfl (ga_Mpr_25 _ _ _ _ _ _ _) (x := p1) (vp_in_iff.mpr (by constructor <;> omega)) d_Mo_paperAt_57 ?_
          refine lv_topi (fun z50 ez50 => ?_)
          have lz50 := Int32.le_toInt z50
          have uz50 := Int32.toInt_lt z50
          have hw : pw D A s.heap _ _ [wd_Mo cs mo mr (fun _ => none) mf39 md (gMo PG hq), fm 8 (fPg cs PG), fm 13 (fPr cs hq qr QO QF QA)] := fm_back (pr := [wd_Mo cs mo mr (fun _ => none) mf39 md (gMo PG hq), fm 8 (fPg cs PG)]) (T := fPr cs hq qr QO QF QA) hw hi49
          have hw : pw D A s.heap _ _ [wd_Mo cs mo mr (fun _ => none) mf39 md (gMo PG hq), fm 13 (fPr cs hq qr QO QF QA), fm 8 (fPg cs PG)] := hw.sub [0, 2, 1] rfl rfl
          exact px_iret (v := z50) S hr rfl hlk hAe hw (Nat.le_of_ble_eq_true rfl) (Nat.le_of_ble_eq_true rfl) (⟨mf39, rfl, (show (mf39 2).toInt = (mf 2).toInt from by first | exact e42 | omega), (show (mf39 3).toInt = (mf 3).toInt from by first | exact e43 | omega), (show (mf39 10).toInt = (mf 10).toInt from by first | exact e44 | omega)⟩) d_Mo_paperAt_58
        · have nc47 : ¬ v41.toInt = (0 : Int) := mt (i_eq (x := v41) (y := 0)).mpr c47
          refine lv_iconst (v := 0) S.x S.b d_Mo_paperAt_43 (by decide) ?_
          refine lv_goto (tgt := 58) S.x S.b d_Mo_paperAt_44 (by decide) ?_
          exact px_iret (v := 0) S hr rfl hlk hAe hw (Nat.le_of_ble_eq_true rfl) (Nat.le_of_ble_eq_true rfl) (⟨mf39, rfl, (show (mf39 2).toInt = (mf 2).toInt from by first | exact e42 | omega), (show (mf39 3).toInt = (mf 3).toInt from by first | exact e43 | omega), (show (mf39 10).toInt = (mf 10).toInt from by first | exact e44 | omega)⟩) d_Mo_paperAt_58
      · have nc36 : ¬ (255 : Int) < p1.toInt := mt (i_lt (x := 255) (y := p1)).mpr c36
        refine lv_iload_n S.x S.b d_Mo_paperAt_19 rfl (lv_at hl 2 rfl) ?_
        refine lv_aload_n S.x S.b d_Mo_paperAt_20 rfl (lv_at hl 0 rfl) ?_
        refine px_get S k_Mo hT hw 0 0 5 (v := .ref (mr 5)) rfl rfl rfl (by decide) m11_83 d_Mo_paperAt_21 ?_
        refine lv_iload_n S.x S.b d_Mo_paperAt_24 rfl (lv_at hl 1 rfl) ?_
        refine px_aaldS S hT hw 0 3 10 (n := 13) (f := ((gMo PG hq) 5)) rfl rfl rfl (x := p0) (vp_in_iff.mpr (by first | exact oz_a38e3fbd8b nc6 e3 e5 | (constructor <;> omega))) (sk := (hq p0.toNatClampNeg)) rfl d_Mo_paperAt_25 ?_
        have hw : pw D A s.heap _ _ [wd_Mo cs mo mr (fun _ => none) mf md (gMo PG hq), fm 8 (fPg cs PG), fm 13 (fPr cs hq qr QO QF QA)] := hw.sub [0, 2, 1] rfl rfl
        have hc51 := cl_nat (x := p0) (by first | exact oz_016f458179 hc51 | omega)
        have hi51 : p0.toNatClampNeg < 13 := by first | exact oz_e07a039f23 hc51 nc6 e3 e5 | omega
        have hw : pw D A s.heap _ _ [wd_Mo cs mo mr (fun _ => none) mf md (gMo PG hq), fm 8 (fPg cs PG), fo 13 (fPr cs hq qr QO QF QA) p0.toNatClampNeg, wd_Mpr cs (hq p0.toNatClampNeg) (qr p0.toNatClampNeg) (fun _ => QO p0.toNatClampNeg) (QF p0.toNatClampNeg) (QA p0.toNatClampNeg) (fun _ _ => none)] := fm_out (pr := [wd_Mo cs mo mr (fun _ => none) mf md (gMo PG hq), fm 8 (fPg cs PG)]) (T := fPr cs hq qr QO QF QA) hw hi51
        have hpb51 := hpn p0.toNatClampNeg hi51
        unfold PsB at hpb51
        refine px_get S k_Mpr hT hw 3 0 24 (v := .int ((QF p0.toNatClampNeg) 24)) rfl rfl rfl (by decide) m11_22 d_Mo_paperAt_26 ?_
        refine lv_icmp_lt (tgt := 36) S.x S.b d_Mo_paperAt_29 (by decide) (fun c52 => ?_) (fun c52 => ?_)
        · have nc52 : p1.toInt < ((QF p0.toNatClampNeg) 24).toInt := (i_lt (x := p1) (y := ((QF p0.toNatClampNeg) 24))).mp c52
          refine lv_iconst (v := 0) S.x S.b d_Mo_paperAt_36 (by decide) ?_
          have hw : pw D A s.heap _ _ [wd_Mo cs mo mr (fun _ => none) mf md (gMo PG hq), fm 8 (fPg cs PG), fm 13 (fPr cs hq qr QO QF QA)] := fm_back (pr := [wd_Mo cs mo mr (fun _ => none) mf md (gMo PG hq), fm 8 (fPg cs PG)]) (T := fPr cs hq qr QO QF QA) hw hi51
          have hw : pw D A s.heap _ _ [wd_Mo cs mo mr (fun _ => none) mf md (gMo PG hq), fm 13 (fPr cs hq qr QO QF QA), fm 8 (fPg cs PG)] := hw.sub [0, 2, 1] rfl rfl
          refine px_calli (pr := []) (px_runV (As := [.int 0]) (rest := []) S (c_mo_refused l D cs mo mr md mf hq qr QO QF QA PG 0  (show 0 ≤ (0 : Int) from by first | exact oz_5a341f00aa | omega) (show (0 : Int) ≤ 1 from by first | exact oz_6e68cd0f48 | omega) hpn hpg _) hT (pr := []) (pcs := [wd_Mo cs mo mr (fun _ => none) mf md (gMo PG hq), fm 13 (fPr cs hq qr QO QF QA), fm 8 (fPg cs PG)]) hw px_X.tt (px_recv hT hw 0 0 rfl rfl rfl) m14_184 m14_181 m14_183 ms_17_7 m1_20 q_Mo_refused ⟨Nat.le_of_ble_eq_true rfl, Nat.le_of_ble_eq_true rfl⟩ hl.1 rfl (Nat.le_of_ble_eq_true rfl) d_Mo_paperAt_37 ⟨Nat.le_of_ble_eq_true rfl, Nat.le_of_ble_eq_true rfl⟩) hw hA (fun v57 p56 H locs hp56 hw => ?_)
          obtain ⟨mf55, rfl, e58, e59, e60, e61, e62⟩ := hp56
          have e58 : (mf55 2).toInt = (mf 2).toInt := e58
          have e59 : (mf55 3).toInt = (mf 3).toInt := e59
          have e60 : (mf55 10).toInt = (mf 10).toInt := e60
          have e61 : v57.toInt = (0 : Int) := e61
          have e62 : (mf55 0).toInt = (0 : Int) := e62
          have hw : pw D A s.heap H locs [wd_Mo cs mo mr (fun _ => none) mf55 md (gMo PG hq), fm 13 (fPr cs hq qr QO QF QA), fm 8 (fPg cs PG)] := hw
          have lv57 := Int32.le_toInt v57
          have uv57 := Int32.toInt_lt v57
          refine lv_if_eq (tgt := 47) S.x S.b d_Mo_paperAt_40 (by decide) (fun c63 => ?_) (fun c63 => ?_)
          · have nc63 : v57.toInt = (0 : Int) := (i_eq (x := v57) (y := 0)).mp c63
            refine lv_aload_n S.x S.b d_Mo_paperAt_47 rfl (lv_at hl 0 rfl) ?_
            refine px_get S k_Mo hT hw 0 0 5 (v := .ref (mr 5)) rfl rfl rfl (by decide) m11_83 d_Mo_paperAt_48 ?_
            refine lv_iload_n S.x S.b d_Mo_paperAt_51 rfl (lv_at hl 1 rfl) ?_
            refine px_aaldS S hT hw 0 3 10 (n := 13) (f := ((gMo PG hq) 5)) rfl rfl rfl (x := p0) (vp_in_iff.mpr (by first | exact oz_3859d57d28 hc51 hi51 | (constructor <;> omega))) (sk := (hq p0.toNatClampNeg)) rfl d_Mo_paperAt_52 ?_
            have hw : pw D A s.heap _ _ [wd_Mo cs mo mr (fun _ => none) mf55 md (gMo PG hq), fm 8 (fPg cs PG), fm 13 (fPr cs hq qr QO QF QA)] := hw.sub [0, 2, 1] rfl rfl
            have hc65 := cl_nat (x := p0) (by first | exact oz_016f458179 hc51 | omega)
            have hi65 : p0.toNatClampNeg < 13 := by first | exact hi51 | omega
            have hw : pw D A s.heap _ _ [wd_Mo cs mo mr (fun _ => none) mf55 md (gMo PG hq), fm 8 (fPg cs PG), fo 13 (fPr cs hq qr QO QF QA) p0.toNatClampNeg, wd_Mpr cs (hq p0.toNatClampNeg) (qr p0.toNatClampNeg) (fun _ => QO p0.toNatClampNeg) (QF p0.toNatClampNeg) (QA p0.toNatClampNeg) (fun _ _ => none)] := fm_out (pr := [wd_Mo cs mo mr (fun _ => none) mf55 md (gMo PG hq), fm 8 (fPg cs PG)]) (T := fPr cs hq qr QO QF QA) hw hi65
            have hpb65 := hpn p0.toNatClampNeg hi65
            unfold PsB at hpb65
            refine px_get S k_Mpr hT hw 3 0 25 (v := .ref ((qr p0.toNatClampNeg) 25)) rfl rfl rfl (by decide) m11_24 d_Mo_paperAt_53 ?_
            refine lv_iload_n S.x S.b d_Mo_paperAt_56 rfl (lv_at hl 2 rfl) ?_
            refine px_iald S hT hw 3 10 (n := 256) (f := ((QA p0.toNatClampNeg) 25)) rfl (ga_Mpr_25 _ _ _ _ _ _ _) (x := p1) (vp_in_iff.mpr (by first | exact oz_6cbab4594c nc21 nc36 | (constructor <;> omega))) d_Mo_paperAt_57 ?_
            refine lv_topi (fun z66 ez66 => ?_)
            have lz66 := Int32.le_toInt z66
            have uz66 := Int32.toInt_lt z66
            have hw : pw D A s.heap _ _ [wd_Mo cs mo mr (fun _ => none) mf55 md (gMo PG hq), fm 8 (fPg cs PG), fm 13 (fPr cs hq qr QO QF QA)] := fm_back (pr := [wd_Mo cs mo mr (fun _ => none) mf55 md (gMo PG hq), fm 8 (fPg cs PG)]) (T := fPr cs hq qr QO QF QA) hw hi65
            have hw : pw D A s.heap _ _ [wd_Mo cs mo mr (fun _ => none) mf55 md (gMo PG hq), fm 13 (fPr cs hq qr QO QF QA), fm 8 (fPg cs PG)] := hw.sub [0, 2, 1] rfl rfl
            exact px_iret (v := z66) S hr rfl hlk hAe hw (Nat.le_of_ble_eq_true rfl) (Nat.le_of_ble_eq_true rfl) (⟨mf55, rfl, (show (mf55 2).toInt = (mf 2).toInt from by first | exact e58 | omega), (show (mf55 3).toInt = (mf 3).toInt from by first | exact e59 | omega), (show (mf55 10).toInt = (mf 10).toInt from by first | exact e60 | omega)⟩) d_Mo_paperAt_58
          · have nc63 : ¬ v57.toInt = (0 : Int) := mt (i_eq (x := v57) (y := 0)).mpr c63
            refine lv_iconst (v := 0) S.x S.b d_Mo_paperAt_43 (by decide) ?_
            refine lv_goto (tgt := 58) S.x S.b d_Mo_paperAt_44 (by decide) ?_
            exact px_iret (v := 0) S hr rfl hlk hAe hw (Nat.le_of_ble_eq_true rfl) (Nat.le_of_ble_eq_true rfl) (⟨mf55, rfl, (show (mf55 2).toInt = (mf 2).toInt from by first | exact e58 | omega), (show (mf55 3).toInt = (mf 3).toInt from by first | exact e59 | omega), (show (mf55 10).toInt = (mf 10).toInt from by first | exact e60 | omega)⟩) d_Mo_paperAt_58
        · have nc52 : ¬ p1.toInt < ((QF p0.toNatClampNeg) 24).toInt := mt (i_lt (x := p1) (y := ((QF p0.toNatClampNeg) 24))).mpr c52
          refine lv_iconst (v := 1) S.x S.b d_Mo_paperAt_32 (by decide) ?_
          refine lv_goto (tgt := 37) S.x S.b d_Mo_paperAt_33 (by decide) ?_
          have hw : pw D A s.heap _ _ [wd_Mo cs mo mr (fun _ => none) mf md (gMo PG hq), fm 8 (fPg cs PG), fm 13 (fPr cs hq qr QO QF QA)] := fm_back (pr := [wd_Mo cs mo mr (fun _ => none) mf md (gMo PG hq), fm 8 (fPg cs PG)]) (T := fPr cs hq qr QO QF QA) hw hi51
          have hw : pw D A s.heap _ _ [wd_Mo cs mo mr (fun _ => none) mf md (gMo PG hq), fm 13 (fPr cs hq qr QO QF QA), fm 8 (fPg cs PG)] := hw.sub [0, 2, 1] rfl rfl
          refine px_calli (pr := []) (px_runV (As := [.int 1]) (rest := []) S (c_mo_refused l D cs mo mr md mf hq qr QO QF QA PG 1  (show 0 ≤ (1 : Int) from by first | exact oz_19c3a41681 | omega) (show (1 : Int) ≤ 1 from by first | exact oz_f9181dc4bb | omega) hpn hpg _) hT (pr := []) (pcs := [wd_Mo cs mo mr (fun _ => none) mf md (gMo PG hq), fm 13 (fPr cs hq qr QO QF QA), fm 8 (fPg cs PG)]) hw px_X.tt (px_recv hT hw 0 0 rfl rfl rfl) m14_184 m14_181 m14_183 ms_17_7 m1_20 q_Mo_refused ⟨Nat.le_of_ble_eq_true rfl, Nat.le_of_ble_eq_true rfl⟩ hl.1 rfl (Nat.le_of_ble_eq_true rfl) d_Mo_paperAt_37 ⟨Nat.le_of_ble_eq_true rfl, Nat.le_of_ble_eq_true rfl⟩) hw hA (fun v70 p69 H locs hp69 hw => ?_)
          obtain ⟨mf68, rfl, e71, e72, e73, e74, e75⟩ := hp69
          have e71 : (mf68 2).toInt = (mf 2).toInt := e71
          have e72 : (mf68 3).toInt = (mf 3).toInt := e72
          have e73 : (mf68 10).toInt = (mf 10).toInt := e73
          have e74 : v70.toInt = (1 : Int) := e74
          have e75 : (mf68 0).toInt = (1 : Int) := e75
          have hw : pw D A s.heap H locs [wd_Mo cs mo mr (fun _ => none) mf68 md (gMo PG hq), fm 13 (fPr cs hq qr QO QF QA), fm 8 (fPg cs PG)] := hw
          have lv70 := Int32.le_toInt v70
          have uv70 := Int32.toInt_lt v70
          refine lv_if_eq (tgt := 47) S.x S.b d_Mo_paperAt_40 (by decide) (fun c76 => ?_) (fun c76 => ?_)
          · have nc76 : v70.toInt = (0 : Int) := (i_eq (x := v70) (y := 0)).mp c76
            refine lv_aload_n S.x S.b d_Mo_paperAt_47 rfl (lv_at hl 0 rfl) ?_
            refine px_get S k_Mo hT hw 0 0 5 (v := .ref (mr 5)) rfl rfl rfl (by decide) m11_83 d_Mo_paperAt_48 ?_
            refine lv_iload_n S.x S.b d_Mo_paperAt_51 rfl (lv_at hl 1 rfl) ?_
            refine px_aaldS S hT hw 0 3 10 (n := 13) (f := ((gMo PG hq) 5)) rfl rfl rfl (x := p0) (vp_in_iff.mpr (by first | exact oz_3859d57d28 hc51 hi51 | (constructor <;> omega))) (sk := (hq p0.toNatClampNeg)) rfl d_Mo_paperAt_52 ?_
            have hw : pw D A s.heap _ _ [wd_Mo cs mo mr (fun _ => none) mf68 md (gMo PG hq), fm 8 (fPg cs PG), fm 13 (fPr cs hq qr QO QF QA)] := hw.sub [0, 2, 1] rfl rfl
            have hc78 := cl_nat (x := p0) (by first | exact oz_016f458179 hc51 | omega)
            have hi78 : p0.toNatClampNeg < 13 := by first | exact hi51 | omega
            have hw : pw D A s.heap _ _ [wd_Mo cs mo mr (fun _ => none) mf68 md (gMo PG hq), fm 8 (fPg cs PG), fo 13 (fPr cs hq qr QO QF QA) p0.toNatClampNeg, wd_Mpr cs (hq p0.toNatClampNeg) (qr p0.toNatClampNeg) (fun _ => QO p0.toNatClampNeg) (QF p0.toNatClampNeg) (QA p0.toNatClampNeg) (fun _ _ => none)] := fm_out (pr := [wd_Mo cs mo mr (fun _ => none) mf68 md (gMo PG hq), fm 8 (fPg cs PG)]) (T := fPr cs hq qr QO QF QA) hw hi78
            have hpb78 := hpn p0.toNatClampNeg hi78
            unfold PsB at hpb78
            refine px_get S k_Mpr hT hw 3 0 25 (v := .ref ((qr p0.toNatClampNeg) 25)) rfl rfl rfl (by decide) m11_24 d_Mo_paperAt_53 ?_
            refine lv_iload_n S.x S.b d_Mo_paperAt_56 rfl (lv_at hl 2 rfl) ?_
            refine px_iald S hT hw 3 10 (n := 256) (f := ((QA p0.toNatClampNeg) 25)) rfl (ga_Mpr_25 _ _ _ _ _ _ _) (x := p1) (vp_in_iff.mpr (by first | exact oz_6cbab4594c nc21 nc36 | (constructor <;> omega))) d_Mo_paperAt_57 ?_
            refine lv_topi (fun z79 ez79 => ?_)
            have lz79 := Int32.le_toInt z79
            have uz79 := Int32.toInt_lt z79
            have hw : pw D A s.heap _ _ [wd_Mo cs mo mr (fun _ => none) mf68 md (gMo PG hq), fm 8 (fPg cs PG), fm 13 (fPr cs hq qr QO QF QA)] := fm_back (pr := [wd_Mo cs mo mr (fun _ => none) mf68 md (gMo PG hq), fm 8 (fPg cs PG)]) (T := fPr cs hq qr QO QF QA) hw hi78
            have hw : pw D A s.heap _ _ [wd_Mo cs mo mr (fun _ => none) mf68 md (gMo PG hq), fm 13 (fPr cs hq qr QO QF QA), fm 8 (fPg cs PG)] := hw.sub [0, 2, 1] rfl rfl
            exact px_iret (v := z79) S hr rfl hlk hAe hw (Nat.le_of_ble_eq_true rfl) (Nat.le_of_ble_eq_true rfl) (⟨mf68, rfl, (show (mf68 2).toInt = (mf 2).toInt from by first | exact e71 | omega), (show (mf68 3).toInt = (mf 3).toInt from by first | exact e72 | omega), (show (mf68 10).toInt = (mf 10).toInt from by first | exact e73 | omega)⟩) d_Mo_paperAt_58
          · have nc76 : ¬ v70.toInt = (0 : Int) := mt (i_eq (x := v70) (y := 0)).mpr c76
            refine lv_iconst (v := 0) S.x S.b d_Mo_paperAt_43 (by decide) ?_
            refine lv_goto (tgt := 58) S.x S.b d_Mo_paperAt_44 (by decide) ?_
            exact px_iret (v := 0) S hr rfl hlk hAe hw (Nat.le_of_ble_eq_true rfl) (Nat.le_of_ble_eq_true rfl) (⟨mf68, rfl, (show (mf68 2).toInt = (mf 2).toInt from by first | exact e71 | omega), (show (mf68 3).toInt = (mf 3).toInt from by first | exact e72 | omega), (show (mf68 10).toInt = (mf 10).toInt from by first | exact e73 | omega)⟩) d_Mo_paperAt_58
abbrev b_Mo_unread : ByteArray := prog_14_method_35_code
def y_Mo_unread : MethodName := ⟨"HomeSystemModel", "unread", "(IZ)I"⟩
theorem d_Mo_unread_0 : decode b_Mo_unread 0 = .ok (.aload_n 0, 1) := by decide +kernel
theorem d_Mo_unread_1 : decode b_Mo_unread 1 = .ok (.iload_n 1, 1) := by decide +kernel
theorem d_Mo_unread_2 : decode b_Mo_unread 2 = .ok (.iconst 1, 1) := by decide +kernel
theorem d_Mo_unread_3 : decode b_Mo_unread 3 = .ok (.if_icmp .lt 9, 3) := by decide +kernel
theorem d_Mo_unread_6 : decode b_Mo_unread 6 = .ok (.iload_n 1, 1) := by decide +kernel
theorem d_Mo_unread_7 : decode b_Mo_unread 7 = .ok (.bipush 13, 2) := by decide +kernel
theorem d_Mo_unread_9 : decode b_Mo_unread 9 = .ok (.if_icmp .lt 7, 3) := by decide +kernel
theorem d_Mo_unread_12 : decode b_Mo_unread 12 = .ok (.iconst 1, 1) := by decide +kernel
theorem d_Mo_unread_13 : decode b_Mo_unread 13 = .ok (.goto 4, 3) := by decide +kernel
theorem d_Mo_unread_16 : decode b_Mo_unread 16 = .ok (.iconst 0, 1) := by decide +kernel
theorem d_Mo_unread_17 : decode b_Mo_unread 17 = .ok (.invokevirtual 236, 3) := by decide +kernel
theorem d_Mo_unread_20 : decode b_Mo_unread 20 = .ok (.ifCond .eq 5, 3) := by decide +kernel
theorem d_Mo_unread_23 : decode b_Mo_unread 23 = .ok (.iconst 0, 1) := by decide +kernel
theorem d_Mo_unread_24 : decode b_Mo_unread 24 = .ok (.ireturn, 1) := by decide +kernel
theorem d_Mo_unread_25 : decode b_Mo_unread 25 = .ok (.aload_n 0, 1) := by decide +kernel
theorem d_Mo_unread_26 : decode b_Mo_unread 26 = .ok (.getfield 21, 3) := by decide +kernel
theorem d_Mo_unread_29 : decode b_Mo_unread 29 = .ok (.iload_n 1, 1) := by decide +kernel
theorem d_Mo_unread_30 : decode b_Mo_unread 30 = .ok (.aaload, 1) := by decide +kernel
theorem d_Mo_unread_31 : decode b_Mo_unread 31 = .ok (.getfield 69, 3) := by decide +kernel
theorem d_Mo_unread_34 : decode b_Mo_unread 34 = .ok (.ifCond .ne 7, 3) := by decide +kernel
theorem d_Mo_unread_37 : decode b_Mo_unread 37 = .ok (.iconst 0, 1) := by decide +kernel
theorem d_Mo_unread_38 : decode b_Mo_unread 38 = .ok (.goto 28, 3) := by decide +kernel
theorem d_Mo_unread_41 : decode b_Mo_unread 41 = .ok (.iload_n 2, 1) := by decide +kernel
theorem d_Mo_unread_42 : decode b_Mo_unread 42 = .ok (.ifCond .eq 15, 3) := by decide +kernel
theorem d_Mo_unread_45 : decode b_Mo_unread 45 = .ok (.aload_n 0, 1) := by decide +kernel
theorem d_Mo_unread_46 : decode b_Mo_unread 46 = .ok (.getfield 21, 3) := by decide +kernel
theorem d_Mo_unread_49 : decode b_Mo_unread 49 = .ok (.iload_n 1, 1) := by decide +kernel
theorem d_Mo_unread_50 : decode b_Mo_unread 50 = .ok (.aaload, 1) := by decide +kernel
theorem d_Mo_unread_51 : decode b_Mo_unread 51 = .ok (.getfield 76, 3) := by decide +kernel
theorem d_Mo_unread_54 : decode b_Mo_unread 54 = .ok (.goto 12, 3) := by decide +kernel
theorem d_Mo_unread_57 : decode b_Mo_unread 57 = .ok (.aload_n 0, 1) := by decide +kernel
theorem d_Mo_unread_58 : decode b_Mo_unread 58 = .ok (.getfield 21, 3) := by decide +kernel
theorem d_Mo_unread_61 : decode b_Mo_unread 61 = .ok (.iload_n 1, 1) := by decide +kernel
theorem d_Mo_unread_62 : decode b_Mo_unread 62 = .ok (.aaload, 1) := by decide +kernel
theorem d_Mo_unread_63 : decode b_Mo_unread 63 = .ok (.getfield 73, 3) := by decide +kernel
theorem d_Mo_unread_66 : decode b_Mo_unread 66 = .ok (.ireturn, 1) := by decide +kernel
theorem q_Mo_unread : px_y y_Mo_unread 2 := by unfold px_y; decide +kernel
set_option maxHeartbeats 4000000 in
set_option maxRecDepth 100000 in
theorem c_mo_unread (l : Launch) (D : va_G) (cs : Nat → ClassId) (mo : Nat) (mr : Nat → Nat) (md : Nat → Nat → Int32) (mf : Nat → Int32) (hq : Nat → Nat) (qr : Nat → Nat → Nat) (QO : Nat → Option Nat) (QF : Nat → Nat → Int32) (QA : Nat → Nat → Nat → Int32) (PG : Nat → Pgs) (p0 p1 : Int32)  (hpn : PrN QF) (hpg : PgA PG) : MetI l y_Mo_unread b_Mo_unread 3 (.int) D cs 1 40 (0) (0) [.ref mo, .int p0, .int p1] [wd_Mo cs mo mr (fun _ => none) mf md (gMo PG hq), fm 13 (fPr cs hq qr QO QF QA), fm 8 (fPg cs PG)] (fun _ => True) (fun v ps => ∃ (mf' : Nat → Int32), (ps = [wd_Mo cs mo mr (fun _ => none) mf' md (gMo PG hq), fm 13 (fPr cs hq qr QO QF QA), fm 8 (fPg cs PG)]) ∧ ((mf' 2).toInt = (mf 2).toInt) ∧ ((mf' 3).toInt = (mf 3).toInt) ∧ ((mf' 10).toInt = (mf 10).toInt)) := by
  refine px_enter (by decide) (Nat.le_of_ble_eq_true rfl) ?_
  intro p e s m below meth c A ls hAe S hr hlk hnm hA hT hX hw hl
  have hl : lv_has ls 3 [(0, .ref mo), (1, .int p0), (2, .int p1)] := hl
  have lp0 := Int32.le_toInt p0
  have up0 := Int32.toInt_lt p0
  have lp1 := Int32.le_toInt p1
  have up1 := Int32.toInt_lt p1
  have cst0 : (0 : Int32).toInt = 0 := rfl
  have cst1 : (1 : Int32).toInt = 1 := rfl
  have cst13 : (13 : Int32).toInt = 13 := rfl
  refine lv_aload_n S.x S.b d_Mo_unread_0 rfl (lv_at hl 0 rfl) ?_
  refine lv_iload_n S.x S.b d_Mo_unread_1 rfl (lv_at hl 1 rfl) ?_
  refine lv_iconst (v := 1) S.x S.b d_Mo_unread_2 (by decide) ?_
  refine lv_icmp_lt (tgt := 12) S.x S.b d_Mo_unread_3 (by decide) (fun c1 => ?_) (fun c1 => ?_)
  · have nc1 : p0.toInt < (1 : Int) := (i_lt (x := p0) (y := 1)).mp c1
    refine lv_iconst (v := 1) S.x S.b d_Mo_unread_12 (by decide) ?_
    refine lv_goto (tgt := 17) S.x S.b d_Mo_unread_13 (by decide) ?_
    refine px_calli (pr := []) (px_runV (As := [.int 1]) (rest := []) S (c_mo_refused l D cs mo mr md mf hq qr QO QF QA PG 1  (show 0 ≤ (1 : Int) from by first | exact oz_19c3a41681 | omega) (show (1 : Int) ≤ 1 from by first | exact oz_f9181dc4bb | omega) hpn hpg _) hT (pr := []) (pcs := [wd_Mo cs mo mr (fun _ => none) mf md (gMo PG hq), fm 13 (fPr cs hq qr QO QF QA), fm 8 (fPg cs PG)]) hw px_X.tt (px_recv hT hw 0 0 rfl rfl rfl) m14_184 m14_181 m14_183 ms_17_7 m1_20 q_Mo_refused ⟨Nat.le_of_ble_eq_true rfl, Nat.le_of_ble_eq_true rfl⟩ hl.1 rfl (Nat.le_of_ble_eq_true rfl) d_Mo_unread_17 ⟨Nat.le_of_ble_eq_true rfl, Nat.le_of_ble_eq_true rfl⟩) hw hA (fun v6 p5 H locs hp5 hw => ?_)
    obtain ⟨mf4, rfl, e7, e8, e9, e10, e11⟩ := hp5
    have e7 : (mf4 2).toInt = (mf 2).toInt := e7
    have e8 : (mf4 3).toInt = (mf 3).toInt := e8
    have e9 : (mf4 10).toInt = (mf 10).toInt := e9
    have e10 : v6.toInt = (1 : Int) := e10
    have e11 : (mf4 0).toInt = (1 : Int) := e11
    have hw : pw D A s.heap H locs [wd_Mo cs mo mr (fun _ => none) mf4 md (gMo PG hq), fm 13 (fPr cs hq qr QO QF QA), fm 8 (fPg cs PG)] := hw
    have lv6 := Int32.le_toInt v6
    have uv6 := Int32.toInt_lt v6
    refine lv_if_eq (tgt := 25) S.x S.b d_Mo_unread_20 (by decide) (fun c12 => ?_) (fun c12 => ?_)
    · have nc12 : v6.toInt = (0 : Int) := (i_eq (x := v6) (y := 0)).mp c12
      refine lv_aload_n S.x S.b d_Mo_unread_25 rfl (lv_at hl 0 rfl) ?_
      refine px_get S k_Mo hT hw 0 0 5 (v := .ref (mr 5)) rfl rfl rfl (by decide) m11_83 d_Mo_unread_26 ?_
      refine lv_iload_n S.x S.b d_Mo_unread_29 rfl (lv_at hl 1 rfl) ?_
      refine px_aaldS S hT hw 0 3 10 (n := 13) (f := ((gMo PG hq) 5)) rfl rfl rfl (x := p0) (vp_in_iff.mpr (by constructor <;> omega)) (sk := (hq p0.toNatClampNeg)) rfl d_Mo_unread_30 ?_
      have hw : pw D A s.heap _ _ [wd_Mo cs mo mr (fun _ => none) mf4 md (gMo PG hq), fm 8 (fPg cs PG), fm 13 (fPr cs hq qr QO QF QA)] := hw.sub [0, 2, 1] rfl rfl
      have hc14 := cl_nat (x := p0) (by first | exact oz_016f458179 hc14 | omega)
      have hi14 : p0.toNatClampNeg < 13 := by first | exact oz_62a23ed4d6 hc14 nc1 | omega
      have hw : pw D A s.heap _ _ [wd_Mo cs mo mr (fun _ => none) mf4 md (gMo PG hq), fm 8 (fPg cs PG), fo 13 (fPr cs hq qr QO QF QA) p0.toNatClampNeg, wd_Mpr cs (hq p0.toNatClampNeg) (qr p0.toNatClampNeg) (fun _ => QO p0.toNatClampNeg) (QF p0.toNatClampNeg) (QA p0.toNatClampNeg) (fun _ _ => none)] := fm_out (pr := [wd_Mo cs mo mr (fun _ => none) mf4 md (gMo PG hq), fm 8 (fPg cs PG)]) (T := fPr cs hq qr QO QF QA) hw hi14
      have hpb14 := hpn p0.toNatClampNeg hi14
      unfold PsB at hpb14
      refine px_get S k_Mpr hT hw 3 0 1 (v := .int ((QF p0.toNatClampNeg) 1)) rfl rfl rfl (by decide) m10_224 d_Mo_unread_31 ?_
      refine lv_if_ne (tgt := 41) S.x S.b d_Mo_unread_34 (by decide) (fun c15 => ?_) (fun c15 => ?_)
      · have nc15 : ¬ ((QF p0.toNatClampNeg) 1).toInt = (0 : Int) := mt (i_eq (x := ((QF p0.toNatClampNeg) 1)) (y := 0)).mpr c15
        refine lv_iload_n S.x S.b d_Mo_unread_41 rfl (lv_at hl 2 rfl) ?_
        refine lv_if_eq (tgt := 57) S.x S.b d_Mo_unread_42 (by decide) (fun c17 => ?_) (fun c17 => ?_)
        · have nc17 : p1.toInt = (0 : Int) := (i_eq (x := p1) (y := 0)).mp c17
          refine lv_aload_n S.x S.b d_Mo_unread_57 rfl (lv_at hl 0 rfl) ?_
          refine px_get S k_Mo hT hw 0 0 5 (v := .ref (mr 5)) rfl rfl rfl (by decide) m11_83 d_Mo_unread_58 ?_
          refine lv_iload_n S.x S.b d_Mo_unread_61 rfl (lv_at hl 1 rfl) ?_
          refine px_aaldS S hT hw 0 3 10 (n := 13) (f := ((gMo PG hq) 5)) rfl rfl rfl (x := p0) (vp_in_iff.mpr (by first | exact oz_5602c1b1f7 hc14 nc1 | (constructor <;> omega))) (sk := (hq p0.toNatClampNeg)) rfl d_Mo_unread_62 ?_
          refine px_get S k_Mpr hT hw 3 0 23 (v := .int ((QF p0.toNatClampNeg) 23)) rfl rfl rfl (by decide) m11_20 d_Mo_unread_63 ?_
          have hw : pw D A s.heap _ _ [wd_Mo cs mo mr (fun _ => none) mf4 md (gMo PG hq), fm 8 (fPg cs PG), fm 13 (fPr cs hq qr QO QF QA)] := fm_back (pr := [wd_Mo cs mo mr (fun _ => none) mf4 md (gMo PG hq), fm 8 (fPg cs PG)]) (T := fPr cs hq qr QO QF QA) hw hi14
          have hw : pw D A s.heap _ _ [wd_Mo cs mo mr (fun _ => none) mf4 md (gMo PG hq), fm 13 (fPr cs hq qr QO QF QA), fm 8 (fPg cs PG)] := hw.sub [0, 2, 1] rfl rfl
          exact px_iret (v := ((QF p0.toNatClampNeg) 23)) S hr rfl hlk hAe hw (Nat.le_of_ble_eq_true rfl) (Nat.le_of_ble_eq_true rfl) (⟨mf4, rfl, (show (mf4 2).toInt = (mf 2).toInt from by first | exact e7 | omega), (show (mf4 3).toInt = (mf 3).toInt from by first | exact e8 | omega), (show (mf4 10).toInt = (mf 10).toInt from by first | exact e9 | omega)⟩) d_Mo_unread_66
        · have nc17 : ¬ p1.toInt = (0 : Int) := mt (i_eq (x := p1) (y := 0)).mpr c17
          refine lv_aload_n S.x S.b d_Mo_unread_45 rfl (lv_at hl 0 rfl) ?_
          refine px_get S k_Mo hT hw 0 0 5 (v := .ref (mr 5)) rfl rfl rfl (by decide) m11_83 d_Mo_unread_46 ?_
          refine lv_iload_n S.x S.b d_Mo_unread_49 rfl (lv_at hl 1 rfl) ?_
          refine px_aaldS S hT hw 0 3 10 (n := 13) (f := ((gMo PG hq) 5)) rfl rfl rfl (x := p0) (vp_in_iff.mpr (by first | exact oz_5602c1b1f7 hc14 nc1 | (constructor <;> omega))) (sk := (hq p0.toNatClampNeg)) rfl d_Mo_unread_50 ?_
          refine px_get S k_Mpr hT hw 3 0 21 (v := .int ((QF p0.toNatClampNeg) 21)) rfl rfl rfl (by decide) m11_16 d_Mo_unread_51 ?_
          refine lv_goto (tgt := 66) S.x S.b d_Mo_unread_54 (by decide) ?_
          have hw : pw D A s.heap _ _ [wd_Mo cs mo mr (fun _ => none) mf4 md (gMo PG hq), fm 8 (fPg cs PG), fm 13 (fPr cs hq qr QO QF QA)] := fm_back (pr := [wd_Mo cs mo mr (fun _ => none) mf4 md (gMo PG hq), fm 8 (fPg cs PG)]) (T := fPr cs hq qr QO QF QA) hw hi14
          have hw : pw D A s.heap _ _ [wd_Mo cs mo mr (fun _ => none) mf4 md (gMo PG hq), fm 13 (fPr cs hq qr QO QF QA), fm 8 (fPg cs PG)] := hw.sub [0, 2, 1] rfl rfl
          exact px_iret (v := ((QF p0.toNatClampNeg) 21)) S hr rfl hlk hAe hw (Nat.le_of_ble_eq_true rfl) (Nat.le_of_ble_eq_true rfl) (⟨mf4, rfl, (show (mf4 2).toInt = (mf 2).toInt from by first | exact e7 | omega), (show (mf4 3).toInt = (mf 3).toInt from by first | exact e8 | omega), (show (mf4 10).toInt = (mf 10).toInt from by first | exact e9 | omega)⟩) d_Mo_unread_66
      · have nc15 : ((QF p0.toNatClampNeg) 1).toInt = (0 : Int) := (i_eq (x := ((QF p0.toNatClampNeg) 1)) (y := 0)).mp c15
        refine lv_iconst (v := 0) S.x S.b d_Mo_unread_37 (by decide) ?_
        refine lv_goto (tgt := 66) S.x S.b d_Mo_unread_38 (by decide) ?_
        have hw : pw D A s.heap _ _ [wd_Mo cs mo mr (fun _ => none) mf4 md (gMo PG hq), fm 8 (fPg cs PG), fm 13 (fPr cs hq qr QO QF QA)] := fm_back (pr := [wd_Mo cs mo mr (fun _ => none) mf4 md (gMo PG hq), fm 8 (fPg cs PG)]) (T := fPr cs hq qr QO QF QA) hw hi14
        have hw : pw D A s.heap _ _ [wd_Mo cs mo mr (fun _ => none) mf4 md (gMo PG hq), fm 13 (fPr cs hq qr QO QF QA), fm 8 (fPg cs PG)] := hw.sub [0, 2, 1] rfl rfl
        exact px_iret (v := 0) S hr rfl hlk hAe hw (Nat.le_of_ble_eq_true rfl) (Nat.le_of_ble_eq_true rfl) (⟨mf4, rfl, (show (mf4 2).toInt = (mf 2).toInt from by first | exact e7 | omega), (show (mf4 3).toInt = (mf 3).toInt from by first | exact e8 | omega), (show (mf4 10).toInt = (mf 10).toInt from by first | exact e9 | omega)⟩) d_Mo_unread_66
    · have nc12 : ¬ v6.toInt = (0 : Int) := mt (i_eq (x := v6) (y := 0)).mpr c12
      refine lv_iconst (v := 0) S.x S.b d_Mo_unread_23 (by decide) ?_
      exact px_iret (v := 0) S hr rfl hlk hAe hw (Nat.le_of_ble_eq_true rfl) (Nat.le_of_ble_eq_true rfl) (⟨mf4, rfl, (show (mf4 2).toInt = (mf 2).toInt from by first | exact e7 | omega), (show (mf4 3).toInt = (mf 3).toInt from by first | exact e8 | omega), (show (mf4 10).toInt = (mf 10).toInt from by first | exact e9 | omega)⟩) d_Mo_unread_24
  · have nc1 : ¬ p0.toInt < (1 : Int) := mt (i_lt (x := p0) (y := 1)).mpr c1
    refine lv_iload_n S.x S.b d_Mo_unread_6 rfl (lv_at hl 1 rfl) ?_
    refine lv_bipush (v := 13) S.x S.b d_Mo_unread_7 (by decide) ?_
    refine lv_icmp_lt (tgt := 16) S.x S.b d_Mo_unread_9 (by decide) (fun c19 => ?_) (fun c19 => ?_)
    · have nc19 : p0.toInt < (13 : Int) := (i_lt (x := p0) (y := 13)).mp c19
      refine lv_iconst (v := 0) S.x S.b d_Mo_unread_16 (by decide) ?_
      refine px_calli (pr := []) (px_runV (As := [.int 0]) (rest := []) S (c_mo_refused l D cs mo mr md mf hq qr QO QF QA PG 0  (show 0 ≤ (0 : Int) from by first | exact oz_5a341f00aa | omega) (show (0 : Int) ≤ 1 from by first | exact oz_6e68cd0f48 | omega) hpn hpg _) hT (pr := []) (pcs := [wd_Mo cs mo mr (fun _ => none) mf md (gMo PG hq), fm 13 (fPr cs hq qr QO QF QA), fm 8 (fPg cs PG)]) hw px_X.tt (px_recv hT hw 0 0 rfl rfl rfl) m14_184 m14_181 m14_183 ms_17_7 m1_20 q_Mo_refused ⟨Nat.le_of_ble_eq_true rfl, Nat.le_of_ble_eq_true rfl⟩ hl.1 rfl (Nat.le_of_ble_eq_true rfl) d_Mo_unread_17 ⟨Nat.le_of_ble_eq_true rfl, Nat.le_of_ble_eq_true rfl⟩) hw hA (fun v24 p23 H locs hp23 hw => ?_)
      obtain ⟨mf22, rfl, e25, e26, e27, e28, e29⟩ := hp23
      have e25 : (mf22 2).toInt = (mf 2).toInt := e25
      have e26 : (mf22 3).toInt = (mf 3).toInt := e26
      have e27 : (mf22 10).toInt = (mf 10).toInt := e27
      have e28 : v24.toInt = (0 : Int) := e28
      have e29 : (mf22 0).toInt = (0 : Int) := e29
      have hw : pw D A s.heap H locs [wd_Mo cs mo mr (fun _ => none) mf22 md (gMo PG hq), fm 13 (fPr cs hq qr QO QF QA), fm 8 (fPg cs PG)] := hw
      have lv24 := Int32.le_toInt v24
      have uv24 := Int32.toInt_lt v24
      refine lv_if_eq (tgt := 25) S.x S.b d_Mo_unread_20 (by decide) (fun c30 => ?_) (fun c30 => ?_)
      · have nc30 : v24.toInt = (0 : Int) := (i_eq (x := v24) (y := 0)).mp c30
        refine lv_aload_n S.x S.b d_Mo_unread_25 rfl (lv_at hl 0 rfl) ?_
        refine px_get S k_Mo hT hw 0 0 5 (v := .ref (mr 5)) rfl rfl rfl (by decide) m11_83 d_Mo_unread_26 ?_
        refine lv_iload_n S.x S.b d_Mo_unread_29 rfl (lv_at hl 1 rfl) ?_
        refine px_aaldS S hT hw 0 3 10 (n := 13) (f := ((gMo PG hq) 5)) rfl rfl rfl (x := p0) (vp_in_iff.mpr (by first | exact oz_63f4c236b1 nc1 nc19 | (constructor <;> omega))) (sk := (hq p0.toNatClampNeg)) rfl d_Mo_unread_30 ?_
        have hw : pw D A s.heap _ _ [wd_Mo cs mo mr (fun _ => none) mf22 md (gMo PG hq), fm 8 (fPg cs PG), fm 13 (fPr cs hq qr QO QF QA)] := hw.sub [0, 2, 1] rfl rfl
        have hc32 := cl_nat (x := p0) (by first | exact oz_0184fb6be8 nc1 | omega)
        have hi32 : p0.toNatClampNeg < 13 := by first | exact oz_493f3b5f7b hc32 nc19 | omega
        have hw : pw D A s.heap _ _ [wd_Mo cs mo mr (fun _ => none) mf22 md (gMo PG hq), fm 8 (fPg cs PG), fo 13 (fPr cs hq qr QO QF QA) p0.toNatClampNeg, wd_Mpr cs (hq p0.toNatClampNeg) (qr p0.toNatClampNeg) (fun _ => QO p0.toNatClampNeg) (QF p0.toNatClampNeg) (QA p0.toNatClampNeg) (fun _ _ => none)] := fm_out (pr := [wd_Mo cs mo mr (fun _ => none) mf22 md (gMo PG hq), fm 8 (fPg cs PG)]) (T := fPr cs hq qr QO QF QA) hw hi32
        have hpb32 := hpn p0.toNatClampNeg hi32
        unfold PsB at hpb32
        refine px_get S k_Mpr hT hw 3 0 1 (v := .int ((QF p0.toNatClampNeg) 1)) rfl rfl rfl (by decide) m10_224 d_Mo_unread_31 ?_
        refine lv_if_ne (tgt := 41) S.x S.b d_Mo_unread_34 (by decide) (fun c33 => ?_) (fun c33 => ?_)
        · have nc33 : ¬ ((QF p0.toNatClampNeg) 1).toInt = (0 : Int) := mt (i_eq (x := ((QF p0.toNatClampNeg) 1)) (y := 0)).mpr c33
          refine lv_iload_n S.x S.b d_Mo_unread_41 rfl (lv_at hl 2 rfl) ?_
          refine lv_if_eq (tgt := 57) S.x S.b d_Mo_unread_42 (by decide) (fun c35 => ?_) (fun c35 => ?_)
          · have nc35 : p1.toInt = (0 : Int) := (i_eq (x := p1) (y := 0)).mp c35
            refine lv_aload_n S.x S.b d_Mo_unread_57 rfl (lv_at hl 0 rfl) ?_
            refine px_get S k_Mo hT hw 0 0 5 (v := .ref (mr 5)) rfl rfl rfl (by decide) m11_83 d_Mo_unread_58 ?_
            refine lv_iload_n S.x S.b d_Mo_unread_61 rfl (lv_at hl 1 rfl) ?_
            refine px_aaldS S hT hw 0 3 10 (n := 13) (f := ((gMo PG hq) 5)) rfl rfl rfl (x := p0) (vp_in_iff.mpr (by first | exact oz_63f4c236b1 nc1 nc19 | (constructor <;> omega))) (sk := (hq p0.toNatClampNeg)) rfl d_Mo_unread_62 ?_
            refine px_get S k_Mpr hT hw 3 0 23 (v := .int ((QF p0.toNatClampNeg) 23)) rfl rfl rfl (by decide) m11_20 d_Mo_unread_63 ?_
            have hw : pw D A s.heap _ _ [wd_Mo cs mo mr (fun _ => none) mf22 md (gMo PG hq), fm 8 (fPg cs PG), fm 13 (fPr cs hq qr QO QF QA)] := fm_back (pr := [wd_Mo cs mo mr (fun _ => none) mf22 md (gMo PG hq), fm 8 (fPg cs PG)]) (T := fPr cs hq qr QO QF QA) hw hi32
            have hw : pw D A s.heap _ _ [wd_Mo cs mo mr (fun _ => none) mf22 md (gMo PG hq), fm 13 (fPr cs hq qr QO QF QA), fm 8 (fPg cs PG)] := hw.sub [0, 2, 1] rfl rfl
            exact px_iret (v := ((QF p0.toNatClampNeg) 23)) S hr rfl hlk hAe hw (Nat.le_of_ble_eq_true rfl) (Nat.le_of_ble_eq_true rfl) (⟨mf22, rfl, (show (mf22 2).toInt = (mf 2).toInt from by first | exact e25 | omega), (show (mf22 3).toInt = (mf 3).toInt from by first | exact e26 | omega), (show (mf22 10).toInt = (mf 10).toInt from by first | exact e27 | omega)⟩) d_Mo_unread_66
          · have nc35 : ¬ p1.toInt = (0 : Int) := mt (i_eq (x := p1) (y := 0)).mpr c35
            refine lv_aload_n S.x S.b d_Mo_unread_45 rfl (lv_at hl 0 rfl) ?_
            refine px_get S k_Mo hT hw 0 0 5 (v := .ref (mr 5)) rfl rfl rfl (by decide) m11_83 d_Mo_unread_46 ?_
            refine lv_iload_n S.x S.b d_Mo_unread_49 rfl (lv_at hl 1 rfl) ?_
            refine px_aaldS S hT hw 0 3 10 (n := 13) (f := ((gMo PG hq) 5)) rfl rfl rfl (x := p0) (vp_in_iff.mpr (by first | exact oz_63f4c236b1 nc1 nc19 | (constructor <;> omega))) (sk := (hq p0.toNatClampNeg)) rfl d_Mo_unread_50 ?_
            refine px_get S k_Mpr hT hw 3 0 21 (v := .int ((QF p0.toNatClampNeg) 21)) rfl rfl rfl (by decide) m11_16 d_Mo_unread_51 ?_
            refine lv_goto (tgt := 66) S.x S.b d_Mo_unread_54 (by decide) ?_
            have hw : pw D A s.heap _ _ [wd_Mo cs mo mr (fun _ => none) mf22 md (gMo PG hq), fm 8 (fPg cs PG), fm 13 (fPr cs hq qr QO QF QA)] := fm_back (pr := [wd_Mo cs mo mr (fun _ => none) mf22 md (gMo PG hq), fm 8 (fPg cs PG)]) (T := fPr cs hq qr QO QF QA) hw hi32
            have hw : pw D A s.heap _ _ [wd_Mo cs mo mr (fun _ => none) mf22 md (gMo PG hq), fm 13 (fPr cs hq qr QO QF QA), fm 8 (fPg cs PG)] := hw.sub [0, 2, 1] rfl rfl
            exact px_iret (v := ((QF p0.toNatClampNeg) 21)) S hr rfl hlk hAe hw (Nat.le_of_ble_eq_true rfl) (Nat.le_of_ble_eq_true rfl) (⟨mf22, rfl, (show (mf22 2).toInt = (mf 2).toInt from by first | exact e25 | omega), (show (mf22 3).toInt = (mf 3).toInt from by first | exact e26 | omega), (show (mf22 10).toInt = (mf 10).toInt from by first | exact e27 | omega)⟩) d_Mo_unread_66
        · have nc33 : ((QF p0.toNatClampNeg) 1).toInt = (0 : Int) := (i_eq (x := ((QF p0.toNatClampNeg) 1)) (y := 0)).mp c33
          refine lv_iconst (v := 0) S.x S.b d_Mo_unread_37 (by decide) ?_
          refine lv_goto (tgt := 66) S.x S.b d_Mo_unread_38 (by decide) ?_
          have hw : pw D A s.heap _ _ [wd_Mo cs mo mr (fun _ => none) mf22 md (gMo PG hq), fm 8 (fPg cs PG), fm 13 (fPr cs hq qr QO QF QA)] := fm_back (pr := [wd_Mo cs mo mr (fun _ => none) mf22 md (gMo PG hq), fm 8 (fPg cs PG)]) (T := fPr cs hq qr QO QF QA) hw hi32
          have hw : pw D A s.heap _ _ [wd_Mo cs mo mr (fun _ => none) mf22 md (gMo PG hq), fm 13 (fPr cs hq qr QO QF QA), fm 8 (fPg cs PG)] := hw.sub [0, 2, 1] rfl rfl
          exact px_iret (v := 0) S hr rfl hlk hAe hw (Nat.le_of_ble_eq_true rfl) (Nat.le_of_ble_eq_true rfl) (⟨mf22, rfl, (show (mf22 2).toInt = (mf 2).toInt from by first | exact e25 | omega), (show (mf22 3).toInt = (mf 3).toInt from by first | exact e26 | omega), (show (mf22 10).toInt = (mf 10).toInt from by first | exact e27 | omega)⟩) d_Mo_unread_66
      · have nc30 : ¬ v24.toInt = (0 : Int) := mt (i_eq (x := v24) (y := 0)).mpr c30
        refine lv_iconst (v := 0) S.x S.b d_Mo_unread_23 (by decide) ?_
        exact px_iret (v := 0) S hr rfl hlk hAe hw (Nat.le_of_ble_eq_true rfl) (Nat.le_of_ble_eq_true rfl) (⟨mf22, rfl, (show (mf22 2).toInt = (mf 2).toInt from by first | exact e25 | omega), (show (mf22 3).toInt = (mf 3).toInt from by first | exact e26 | omega), (show (mf22 10).toInt = (mf 10).toInt from by first | exact e27 | omega)⟩) d_Mo_unread_24
    · have nc19 : ¬ p0.toInt < (13 : Int) := mt (i_lt (x := p0) (y := 13)).mpr c19
      refine lv_iconst (v := 1) S.x S.b d_Mo_unread_12 (by decide) ?_
      refine lv_goto (tgt := 17) S.x S.b d_Mo_unread_13 (by decide) ?_
      refine px_calli (pr := []) (px_runV (As := [.int 1]) (rest := []) S (c_mo_refused l D cs mo mr md mf hq qr QO QF QA PG 1  (show 0 ≤ (1 : Int) from by first | exact oz_19c3a41681 | omega) (show (1 : Int) ≤ 1 from by first | exact oz_f9181dc4bb | omega) hpn hpg _) hT (pr := []) (pcs := [wd_Mo cs mo mr (fun _ => none) mf md (gMo PG hq), fm 13 (fPr cs hq qr QO QF QA), fm 8 (fPg cs PG)]) hw px_X.tt (px_recv hT hw 0 0 rfl rfl rfl) m14_184 m14_181 m14_183 ms_17_7 m1_20 q_Mo_refused ⟨Nat.le_of_ble_eq_true rfl, Nat.le_of_ble_eq_true rfl⟩ hl.1 rfl (Nat.le_of_ble_eq_true rfl) d_Mo_unread_17 ⟨Nat.le_of_ble_eq_true rfl, Nat.le_of_ble_eq_true rfl⟩) hw hA (fun v40 p39 H locs hp39 hw => ?_)
      obtain ⟨mf38, rfl, e41, e42, e43, e44, e45⟩ := hp39
      have e41 : (mf38 2).toInt = (mf 2).toInt := e41
      have e42 : (mf38 3).toInt = (mf 3).toInt := e42
      have e43 : (mf38 10).toInt = (mf 10).toInt := e43
      have e44 : v40.toInt = (1 : Int) := e44
      have e45 : (mf38 0).toInt = (1 : Int) := e45
      have hw : pw D A s.heap H locs [wd_Mo cs mo mr (fun _ => none) mf38 md (gMo PG hq), fm 13 (fPr cs hq qr QO QF QA), fm 8 (fPg cs PG)] := hw
      have lv40 := Int32.le_toInt v40
      have uv40 := Int32.toInt_lt v40
      refine lv_if_eq (tgt := 25) S.x S.b d_Mo_unread_20 (by decide) (fun c46 => ?_) (fun c46 => ?_)
      · have nc46 : v40.toInt = (0 : Int) := (i_eq (x := v40) (y := 0)).mp c46
        refine lv_aload_n S.x S.b d_Mo_unread_25 rfl (lv_at hl 0 rfl) ?_
        refine px_get S k_Mo hT hw 0 0 5 (v := .ref (mr 5)) rfl rfl rfl (by decide) m11_83 d_Mo_unread_26 ?_
        refine lv_iload_n S.x S.b d_Mo_unread_29 rfl (lv_at hl 1 rfl) ?_
        refine px_aaldS S hT hw 0 3 10 (n := 13) (f := ((gMo PG hq) 5)) rfl rfl rfl (x := p0) (vp_in_iff.mpr (by constructor <;> omega)) (sk := (hq p0.toNatClampNeg)) rfl d_Mo_unread_30 ?_
        have hw : pw D A s.heap _ _ [wd_Mo cs mo mr (fun _ => none) mf38 md (gMo PG hq), fm 8 (fPg cs PG), fm 13 (fPr cs hq qr QO QF QA)] := hw.sub [0, 2, 1] rfl rfl
        have hc48 := cl_nat (x := p0) (by first | exact oz_2ead38c026 nc19 | omega)
        have hi48 : p0.toNatClampNeg < 13 := by omega
        have hw : pw D A s.heap _ _ [wd_Mo cs mo mr (fun _ => none) mf38 md (gMo PG hq), fm 8 (fPg cs PG), fo 13 (fPr cs hq qr QO QF QA) p0.toNatClampNeg, wd_Mpr cs (hq p0.toNatClampNeg) (qr p0.toNatClampNeg) (fun _ => QO p0.toNatClampNeg) (QF p0.toNatClampNeg) (QA p0.toNatClampNeg) (fun _ _ => none)] := fm_out (pr := [wd_Mo cs mo mr (fun _ => none) mf38 md (gMo PG hq), fm 8 (fPg cs PG)]) (T := fPr cs hq qr QO QF QA) hw hi48
        have hpb48 := hpn p0.toNatClampNeg hi48
        unfold PsB at hpb48
        refine px_get S k_Mpr hT hw 3 0 1 (v := .int ((QF p0.toNatClampNeg) 1)) rfl rfl rfl (by decide) m10_224 d_Mo_unread_31 ?_
        refine lv_if_ne (tgt := 41) S.x S.b d_Mo_unread_34 (by decide) (fun c49 => ?_) (fun c49 => ?_)
        · have nc49 : ¬ ((QF p0.toNatClampNeg) 1).toInt = (0 : Int) := mt (i_eq (x := ((QF p0.toNatClampNeg) 1)) (y := 0)).mpr c49
          refine lv_iload_n S.x S.b d_Mo_unread_41 rfl (lv_at hl 2 rfl) ?_
          refine lv_if_eq (tgt := 57) S.x S.b d_Mo_unread_42 (by decide) (fun c51 => ?_) (fun c51 => ?_)
          · have nc51 : p1.toInt = (0 : Int) := (i_eq (x := p1) (y := 0)).mp c51
            refine lv_aload_n S.x S.b d_Mo_unread_57 rfl (lv_at hl 0 rfl) ?_
            refine px_get S k_Mo hT hw 0 0 5 (v := .ref (mr 5)) rfl rfl rfl (by decide) m11_83 d_Mo_unread_58 ?_
            refine lv_iload_n S.x S.b d_Mo_unread_61 rfl (lv_at hl 1 rfl) ?_
            refine px_aaldS S hT hw 0 3 10 (n := 13) (f := ((gMo PG hq) 5)) rfl rfl rfl (x := p0) (vp_in_iff.mpr (by first | exact oz_41c7eadd92 nc19 hc48 hi48 | (constructor <;> omega))) (sk := (hq p0.toNatClampNeg)) rfl d_Mo_unread_62 ?_
            refine px_get S k_Mpr hT hw 3 0 23 (v := .int ((QF p0.toNatClampNeg) 23)) rfl rfl rfl (by decide) m11_20 d_Mo_unread_63 ?_
            have hw : pw D A s.heap _ _ [wd_Mo cs mo mr (fun _ => none) mf38 md (gMo PG hq), fm 8 (fPg cs PG), fm 13 (fPr cs hq qr QO QF QA)] := fm_back (pr := [wd_Mo cs mo mr (fun _ => none) mf38 md (gMo PG hq), fm 8 (fPg cs PG)]) (T := fPr cs hq qr QO QF QA) hw hi48
            have hw : pw D A s.heap _ _ [wd_Mo cs mo mr (fun _ => none) mf38 md (gMo PG hq), fm 13 (fPr cs hq qr QO QF QA), fm 8 (fPg cs PG)] := hw.sub [0, 2, 1] rfl rfl
            exact px_iret (v := ((QF p0.toNatClampNeg) 23)) S hr rfl hlk hAe hw (Nat.le_of_ble_eq_true rfl) (Nat.le_of_ble_eq_true rfl) (⟨mf38, rfl, (show (mf38 2).toInt = (mf 2).toInt from by first | exact e41 | omega), (show (mf38 3).toInt = (mf 3).toInt from by first | exact e42 | omega), (show (mf38 10).toInt = (mf 10).toInt from by first | exact e43 | omega)⟩) d_Mo_unread_66
          · have nc51 : ¬ p1.toInt = (0 : Int) := mt (i_eq (x := p1) (y := 0)).mpr c51
            refine lv_aload_n S.x S.b d_Mo_unread_45 rfl (lv_at hl 0 rfl) ?_
            refine px_get S k_Mo hT hw 0 0 5 (v := .ref (mr 5)) rfl rfl rfl (by decide) m11_83 d_Mo_unread_46 ?_
            refine lv_iload_n S.x S.b d_Mo_unread_49 rfl (lv_at hl 1 rfl) ?_
            refine px_aaldS S hT hw 0 3 10 (n := 13) (f := ((gMo PG hq) 5)) rfl rfl rfl (x := p0) (vp_in_iff.mpr (by first | exact oz_41c7eadd92 nc19 hc48 hi48 | (constructor <;> omega))) (sk := (hq p0.toNatClampNeg)) rfl d_Mo_unread_50 ?_
            refine px_get S k_Mpr hT hw 3 0 21 (v := .int ((QF p0.toNatClampNeg) 21)) rfl rfl rfl (by decide) m11_16 d_Mo_unread_51 ?_
            refine lv_goto (tgt := 66) S.x S.b d_Mo_unread_54 (by decide) ?_
            have hw : pw D A s.heap _ _ [wd_Mo cs mo mr (fun _ => none) mf38 md (gMo PG hq), fm 8 (fPg cs PG), fm 13 (fPr cs hq qr QO QF QA)] := fm_back (pr := [wd_Mo cs mo mr (fun _ => none) mf38 md (gMo PG hq), fm 8 (fPg cs PG)]) (T := fPr cs hq qr QO QF QA) hw hi48
            have hw : pw D A s.heap _ _ [wd_Mo cs mo mr (fun _ => none) mf38 md (gMo PG hq), fm 13 (fPr cs hq qr QO QF QA), fm 8 (fPg cs PG)] := hw.sub [0, 2, 1] rfl rfl
            exact px_iret (v := ((QF p0.toNatClampNeg) 21)) S hr rfl hlk hAe hw (Nat.le_of_ble_eq_true rfl) (Nat.le_of_ble_eq_true rfl) (⟨mf38, rfl, (show (mf38 2).toInt = (mf 2).toInt from by first | exact e41 | omega), (show (mf38 3).toInt = (mf 3).toInt from by first | exact e42 | omega), (show (mf38 10).toInt = (mf 10).toInt from by first | exact e43 | omega)⟩) d_Mo_unread_66
        · have nc49 : ((QF p0.toNatClampNeg) 1).toInt = (0 : Int) := (i_eq (x := ((QF p0.toNatClampNeg) 1)) (y := 0)).mp c49
          refine lv_iconst (v := 0) S.x S.b d_Mo_unread_37 (by decide) ?_
          refine lv_goto (tgt := 66) S.x S.b d_Mo_unread_38 (by decide) ?_
          have hw : pw D A s.heap _ _ [wd_Mo cs mo mr (fun _ => none) mf38 md (gMo PG hq), fm 8 (fPg cs PG), fm 13 (fPr cs hq qr QO QF QA)] := fm_back (pr := [wd_Mo cs mo mr (fun _ => none) mf38 md (gMo PG hq), fm 8 (fPg cs PG)]) (T := fPr cs hq qr QO QF QA) hw hi48
          have hw : pw D A s.heap _ _ [wd_Mo cs mo mr (fun _ => none) mf38 md (gMo PG hq), fm 13 (fPr cs hq qr QO QF QA), fm 8 (fPg cs PG)] := hw.sub [0, 2, 1] rfl rfl
          exact px_iret (v := 0) S hr rfl hlk hAe hw (Nat.le_of_ble_eq_true rfl) (Nat.le_of_ble_eq_true rfl) (⟨mf38, rfl, (show (mf38 2).toInt = (mf 2).toInt from by first | exact e41 | omega), (show (mf38 3).toInt = (mf 3).toInt from by first | exact e42 | omega), (show (mf38 10).toInt = (mf 10).toInt from by first | exact e43 | omega)⟩) d_Mo_unread_66
      · have nc46 : ¬ v40.toInt = (0 : Int) := mt (i_eq (x := v40) (y := 0)).mpr c46
        refine lv_iconst (v := 0) S.x S.b d_Mo_unread_23 (by decide) ?_
        exact px_iret (v := 0) S hr rfl hlk hAe hw (Nat.le_of_ble_eq_true rfl) (Nat.le_of_ble_eq_true rfl) (⟨mf38, rfl, (show (mf38 2).toInt = (mf 2).toInt from by first | exact e41 | omega), (show (mf38 3).toInt = (mf 3).toInt from by first | exact e42 | omega), (show (mf38 10).toInt = (mf 10).toInt from by first | exact e43 | omega)⟩) d_Mo_unread_24
abbrev b_Mo_disk : ByteArray := prog_14_method_36_code
def y_Mo_disk : MethodName := ⟨"HomeSystemModel", "disk", "(I)I"⟩
theorem d_Mo_disk_0 : decode b_Mo_disk 0 = .ok (.aload_n 0, 1) := by decide +kernel
theorem d_Mo_disk_1 : decode b_Mo_disk 1 = .ok (.iload_n 1, 1) := by decide +kernel
theorem d_Mo_disk_2 : decode b_Mo_disk 2 = .ok (.ifCond .lt 9, 3) := by decide +kernel
theorem d_Mo_disk_5 : decode b_Mo_disk 5 = .ok (.iload_n 1, 1) := by decide +kernel
theorem d_Mo_disk_6 : decode b_Mo_disk 6 = .ok (.bipush 127, 2) := by decide +kernel
theorem d_Mo_disk_8 : decode b_Mo_disk 8 = .ok (.if_icmp .le 7, 3) := by decide +kernel
theorem d_Mo_disk_11 : decode b_Mo_disk 11 = .ok (.iconst 1, 1) := by decide +kernel
theorem d_Mo_disk_12 : decode b_Mo_disk 12 = .ok (.goto 4, 3) := by decide +kernel
theorem d_Mo_disk_15 : decode b_Mo_disk 15 = .ok (.iconst 0, 1) := by decide +kernel
theorem d_Mo_disk_16 : decode b_Mo_disk 16 = .ok (.invokevirtual 236, 3) := by decide +kernel
theorem d_Mo_disk_19 : decode b_Mo_disk 19 = .ok (.ifCond .eq 7, 3) := by decide +kernel
theorem d_Mo_disk_22 : decode b_Mo_disk 22 = .ok (.iconst 0, 1) := by decide +kernel
theorem d_Mo_disk_23 : decode b_Mo_disk 23 = .ok (.goto 9, 3) := by decide +kernel
theorem d_Mo_disk_26 : decode b_Mo_disk 26 = .ok (.aload_n 0, 1) := by decide +kernel
theorem d_Mo_disk_27 : decode b_Mo_disk 27 = .ok (.getfield 25, 3) := by decide +kernel
theorem d_Mo_disk_30 : decode b_Mo_disk 30 = .ok (.iload_n 1, 1) := by decide +kernel
theorem d_Mo_disk_31 : decode b_Mo_disk 31 = .ok (.iaload, 1) := by decide +kernel
theorem d_Mo_disk_32 : decode b_Mo_disk 32 = .ok (.ireturn, 1) := by decide +kernel
theorem q_Mo_disk : px_y y_Mo_disk 1 := by unfold px_y; decide +kernel
set_option maxHeartbeats 4000000 in
set_option maxRecDepth 100000 in
theorem c_mo_disk (l : Launch) (D : va_G) (cs : Nat → ClassId) (mo : Nat) (mr : Nat → Nat) (md : Nat → Nat → Int32) (mf : Nat → Int32) (hq : Nat → Nat) (qr : Nat → Nat → Nat) (QO : Nat → Option Nat) (QF : Nat → Nat → Int32) (QA : Nat → Nat → Nat → Int32) (PG : Nat → Pgs) (p0 : Int32)  (hpn : PrN QF) (hpg : PgA PG) : MetI l y_Mo_disk b_Mo_disk 2 (.int) D cs 1 40 (0) (0) [.ref mo, .int p0] [wd_Mo cs mo mr (fun _ => none) mf md (gMo PG hq), fm 13 (fPr cs hq qr QO QF QA), fm 8 (fPg cs PG)] (fun _ => True) (fun v ps => ∃ (mf' : Nat → Int32), (ps = [wd_Mo cs mo mr (fun _ => none) mf' md (gMo PG hq), fm 13 (fPr cs hq qr QO QF QA), fm 8 (fPg cs PG)]) ∧ ((mf' 2).toInt = (mf 2).toInt) ∧ ((mf' 3).toInt = (mf 3).toInt) ∧ ((mf' 10).toInt = (mf 10).toInt)) := by
  refine px_enter (by decide) (Nat.le_of_ble_eq_true rfl) ?_
  intro p e s m below meth c A ls hAe S hr hlk hnm hA hT hX hw hl
  have hl : lv_has ls 2 [(0, .ref mo), (1, .int p0)] := hl
  have lp0 := Int32.le_toInt p0
  have up0 := Int32.toInt_lt p0
  have cst0 : (0 : Int32).toInt = 0 := rfl
  have cst1 : (1 : Int32).toInt = 1 := rfl
  have cst127 : (127 : Int32).toInt = 127 := rfl
  refine lv_aload_n S.x S.b d_Mo_disk_0 rfl (lv_at hl 0 rfl) ?_
  refine lv_iload_n S.x S.b d_Mo_disk_1 rfl (lv_at hl 1 rfl) ?_
  refine lv_if_lt (tgt := 11) S.x S.b d_Mo_disk_2 (by decide) (fun c1 => ?_) (fun c1 => ?_)
  · have nc1 : p0.toInt < (0 : Int) := (i_lt (x := p0) (y := 0)).mp c1
    refine lv_iconst (v := 1) S.x S.b d_Mo_disk_11 (by decide) ?_
    refine lv_goto (tgt := 16) S.x S.b d_Mo_disk_12 (by decide) ?_
    refine px_calli (pr := []) (px_runV (As := [.int 1]) (rest := []) S (c_mo_refused l D cs mo mr md mf hq qr QO QF QA PG 1  (show 0 ≤ (1 : Int) from by first | exact oz_19c3a41681 | omega) (show (1 : Int) ≤ 1 from by first | exact oz_f9181dc4bb | omega) hpn hpg _) hT (pr := []) (pcs := [wd_Mo cs mo mr (fun _ => none) mf md (gMo PG hq), fm 13 (fPr cs hq qr QO QF QA), fm 8 (fPg cs PG)]) hw px_X.tt (px_recv hT hw 0 0 rfl rfl rfl) m14_184 m14_181 m14_183 ms_17_7 m1_20 q_Mo_refused ⟨Nat.le_of_ble_eq_true rfl, Nat.le_of_ble_eq_true rfl⟩ hl.1 rfl (Nat.le_of_ble_eq_true rfl) d_Mo_disk_16 ⟨Nat.le_of_ble_eq_true rfl, Nat.le_of_ble_eq_true rfl⟩) hw hA (fun v6 p5 H locs hp5 hw => ?_)
    obtain ⟨mf4, rfl, e7, e8, e9, e10, e11⟩ := hp5
    have e7 : (mf4 2).toInt = (mf 2).toInt := e7
    have e8 : (mf4 3).toInt = (mf 3).toInt := e8
    have e9 : (mf4 10).toInt = (mf 10).toInt := e9
    have e10 : v6.toInt = (1 : Int) := e10
    have e11 : (mf4 0).toInt = (1 : Int) := e11
    have hw : pw D A s.heap H locs [wd_Mo cs mo mr (fun _ => none) mf4 md (gMo PG hq), fm 13 (fPr cs hq qr QO QF QA), fm 8 (fPg cs PG)] := hw
    have lv6 := Int32.le_toInt v6
    have uv6 := Int32.toInt_lt v6
    refine lv_if_eq (tgt := 26) S.x S.b d_Mo_disk_19 (by decide) (fun c12 => ?_) (fun c12 => ?_)
    · have nc12 : v6.toInt = (0 : Int) := (i_eq (x := v6) (y := 0)).mp c12
      refine lv_aload_n S.x S.b d_Mo_disk_26 rfl (lv_at hl 0 rfl) ?_
      refine px_get S k_Mo hT hw 0 0 6 (v := .ref (mr 6)) rfl rfl rfl (by decide) m11_84 d_Mo_disk_27 ?_
      refine lv_iload_n S.x S.b d_Mo_disk_30 rfl (lv_at hl 1 rfl) ?_
      refine px_iald S hT hw 0 4 (n := 128) (f := (md 6)) rfl (ga_Mo_6 _ _ _ _ _ _ _) (x := p0) (vp_in_iff.mpr (by constructor <;> omega)) d_Mo_disk_31 ?_
      refine lv_topi (fun z14 ez14 => ?_)
      have lz14 := Int32.le_toInt z14
      have uz14 := Int32.toInt_lt z14
      exact px_iret (v := z14) S hr rfl hlk hAe hw (Nat.le_of_ble_eq_true rfl) (Nat.le_of_ble_eq_true rfl) (⟨mf4, rfl, (show (mf4 2).toInt = (mf 2).toInt from by first | exact e7 | omega), (show (mf4 3).toInt = (mf 3).toInt from by first | exact e8 | omega), (show (mf4 10).toInt = (mf 10).toInt from by first | exact e9 | omega)⟩) d_Mo_disk_32
    · have nc12 : ¬ v6.toInt = (0 : Int) := mt (i_eq (x := v6) (y := 0)).mpr c12
      refine lv_iconst (v := 0) S.x S.b d_Mo_disk_22 (by decide) ?_
      refine lv_goto (tgt := 32) S.x S.b d_Mo_disk_23 (by decide) ?_
      exact px_iret (v := 0) S hr rfl hlk hAe hw (Nat.le_of_ble_eq_true rfl) (Nat.le_of_ble_eq_true rfl) (⟨mf4, rfl, (show (mf4 2).toInt = (mf 2).toInt from by first | exact e7 | omega), (show (mf4 3).toInt = (mf 3).toInt from by first | exact e8 | omega), (show (mf4 10).toInt = (mf 10).toInt from by first | exact e9 | omega)⟩) d_Mo_disk_32
  · have nc1 : ¬ p0.toInt < (0 : Int) := mt (i_lt (x := p0) (y := 0)).mpr c1
    refine lv_iload_n S.x S.b d_Mo_disk_5 rfl (lv_at hl 1 rfl) ?_
    refine lv_bipush (v := 127) S.x S.b d_Mo_disk_6 (by decide) ?_
    refine lv_icmp_le (tgt := 15) S.x S.b d_Mo_disk_8 (by decide) (fun c15 => ?_) (fun c15 => ?_)
    · have nc15 : p0.toInt ≤ (127 : Int) := (i_le (x := p0) (y := 127)).mp c15
      refine lv_iconst (v := 0) S.x S.b d_Mo_disk_15 (by decide) ?_
      refine px_calli (pr := []) (px_runV (As := [.int 0]) (rest := []) S (c_mo_refused l D cs mo mr md mf hq qr QO QF QA PG 0  (show 0 ≤ (0 : Int) from by first | exact oz_5a341f00aa | omega) (show (0 : Int) ≤ 1 from by first | exact oz_6e68cd0f48 | omega) hpn hpg _) hT (pr := []) (pcs := [wd_Mo cs mo mr (fun _ => none) mf md (gMo PG hq), fm 13 (fPr cs hq qr QO QF QA), fm 8 (fPg cs PG)]) hw px_X.tt (px_recv hT hw 0 0 rfl rfl rfl) m14_184 m14_181 m14_183 ms_17_7 m1_20 q_Mo_refused ⟨Nat.le_of_ble_eq_true rfl, Nat.le_of_ble_eq_true rfl⟩ hl.1 rfl (Nat.le_of_ble_eq_true rfl) d_Mo_disk_16 ⟨Nat.le_of_ble_eq_true rfl, Nat.le_of_ble_eq_true rfl⟩) hw hA (fun v20 p19 H locs hp19 hw => ?_)
      obtain ⟨mf18, rfl, e21, e22, e23, e24, e25⟩ := hp19
      have e21 : (mf18 2).toInt = (mf 2).toInt := e21
      have e22 : (mf18 3).toInt = (mf 3).toInt := e22
      have e23 : (mf18 10).toInt = (mf 10).toInt := e23
      have e24 : v20.toInt = (0 : Int) := e24
      have e25 : (mf18 0).toInt = (0 : Int) := e25
      have hw : pw D A s.heap H locs [wd_Mo cs mo mr (fun _ => none) mf18 md (gMo PG hq), fm 13 (fPr cs hq qr QO QF QA), fm 8 (fPg cs PG)] := hw
      have lv20 := Int32.le_toInt v20
      have uv20 := Int32.toInt_lt v20
      refine lv_if_eq (tgt := 26) S.x S.b d_Mo_disk_19 (by decide) (fun c26 => ?_) (fun c26 => ?_)
      · have nc26 : v20.toInt = (0 : Int) := (i_eq (x := v20) (y := 0)).mp c26
        refine lv_aload_n S.x S.b d_Mo_disk_26 rfl (lv_at hl 0 rfl) ?_
        refine px_get S k_Mo hT hw 0 0 6 (v := .ref (mr 6)) rfl rfl rfl (by decide) m11_84 d_Mo_disk_27 ?_
        refine lv_iload_n S.x S.b d_Mo_disk_30 rfl (lv_at hl 1 rfl) ?_
        refine px_iald S hT hw 0 4 (n := 128) (f := (md 6)) rfl (ga_Mo_6 _ _ _ _ _ _ _) (x := p0) (vp_in_iff.mpr (by first | exact oz_a45469f712 nc1 nc15 | (constructor <;> omega))) d_Mo_disk_31 ?_
        refine lv_topi (fun z28 ez28 => ?_)
        have lz28 := Int32.le_toInt z28
        have uz28 := Int32.toInt_lt z28
        exact px_iret (v := z28) S hr rfl hlk hAe hw (Nat.le_of_ble_eq_true rfl) (Nat.le_of_ble_eq_true rfl) (⟨mf18, rfl, (show (mf18 2).toInt = (mf 2).toInt from by first | exact e21 | omega), (show (mf18 3).toInt = (mf 3).toInt from by first | exact e22 | omega), (show (mf18 10).toInt = (mf 10).toInt from by first | exact e23 | omega)⟩) d_Mo_disk_32
      · have nc26 : ¬ v20.toInt = (0 : Int) := mt (i_eq (x := v20) (y := 0)).mpr c26
        refine lv_iconst (v := 0) S.x S.b d_Mo_disk_22 (by decide) ?_
        refine lv_goto (tgt := 32) S.x S.b d_Mo_disk_23 (by decide) ?_
        exact px_iret (v := 0) S hr rfl hlk hAe hw (Nat.le_of_ble_eq_true rfl) (Nat.le_of_ble_eq_true rfl) (⟨mf18, rfl, (show (mf18 2).toInt = (mf 2).toInt from by first | exact e21 | omega), (show (mf18 3).toInt = (mf 3).toInt from by first | exact e22 | omega), (show (mf18 10).toInt = (mf 10).toInt from by first | exact e23 | omega)⟩) d_Mo_disk_32
    · have nc15 : ¬ p0.toInt ≤ (127 : Int) := mt (i_le (x := p0) (y := 127)).mpr c15
      refine lv_iconst (v := 1) S.x S.b d_Mo_disk_11 (by decide) ?_
      refine lv_goto (tgt := 16) S.x S.b d_Mo_disk_12 (by decide) ?_
      refine px_calli (pr := []) (px_runV (As := [.int 1]) (rest := []) S (c_mo_refused l D cs mo mr md mf hq qr QO QF QA PG 1  (show 0 ≤ (1 : Int) from by first | exact oz_19c3a41681 | omega) (show (1 : Int) ≤ 1 from by first | exact oz_f9181dc4bb | omega) hpn hpg _) hT (pr := []) (pcs := [wd_Mo cs mo mr (fun _ => none) mf md (gMo PG hq), fm 13 (fPr cs hq qr QO QF QA), fm 8 (fPg cs PG)]) hw px_X.tt (px_recv hT hw 0 0 rfl rfl rfl) m14_184 m14_181 m14_183 ms_17_7 m1_20 q_Mo_refused ⟨Nat.le_of_ble_eq_true rfl, Nat.le_of_ble_eq_true rfl⟩ hl.1 rfl (Nat.le_of_ble_eq_true rfl) d_Mo_disk_16 ⟨Nat.le_of_ble_eq_true rfl, Nat.le_of_ble_eq_true rfl⟩) hw hA (fun v32 p31 H locs hp31 hw => ?_)
      obtain ⟨mf30, rfl, e33, e34, e35, e36, e37⟩ := hp31
      have e33 : (mf30 2).toInt = (mf 2).toInt := e33
      have e34 : (mf30 3).toInt = (mf 3).toInt := e34
      have e35 : (mf30 10).toInt = (mf 10).toInt := e35
      have e36 : v32.toInt = (1 : Int) := e36
      have e37 : (mf30 0).toInt = (1 : Int) := e37
      have hw : pw D A s.heap H locs [wd_Mo cs mo mr (fun _ => none) mf30 md (gMo PG hq), fm 13 (fPr cs hq qr QO QF QA), fm 8 (fPg cs PG)] := hw
      have lv32 := Int32.le_toInt v32
      have uv32 := Int32.toInt_lt v32
      refine lv_if_eq (tgt := 26) S.x S.b d_Mo_disk_19 (by decide) (fun c38 => ?_) (fun c38 => ?_)
      · have nc38 : v32.toInt = (0 : Int) := (i_eq (x := v32) (y := 0)).mp c38
        refine lv_aload_n S.x S.b d_Mo_disk_26 rfl (lv_at hl 0 rfl) ?_
        refine px_get S k_Mo hT hw 0 0 6 (v := .ref (mr 6)) rfl rfl rfl (by decide) m11_84 d_Mo_disk_27 ?_
        refine lv_iload_n S.x S.b d_Mo_disk_30 rfl (lv_at hl 1 rfl) ?_
        refine px_iald S hT hw 0 4 (n := 128) (f := (md 6)) rfl (ga_Mo_6 _ _ _ _ _ _ _) (x := p0) (vp_in_iff.mpr (by constructor <;> omega)) d_Mo_disk_31 ?_
        refine lv_topi (fun z40 ez40 => ?_)
        have lz40 := Int32.le_toInt z40
        have uz40 := Int32.toInt_lt z40
        exact px_iret (v := z40) S hr rfl hlk hAe hw (Nat.le_of_ble_eq_true rfl) (Nat.le_of_ble_eq_true rfl) (⟨mf30, rfl, (show (mf30 2).toInt = (mf 2).toInt from by first | exact e33 | omega), (show (mf30 3).toInt = (mf 3).toInt from by first | exact e34 | omega), (show (mf30 10).toInt = (mf 10).toInt from by first | exact e35 | omega)⟩) d_Mo_disk_32
      · have nc38 : ¬ v32.toInt = (0 : Int) := mt (i_eq (x := v32) (y := 0)).mpr c38
        refine lv_iconst (v := 0) S.x S.b d_Mo_disk_22 (by decide) ?_
        refine lv_goto (tgt := 32) S.x S.b d_Mo_disk_23 (by decide) ?_
        exact px_iret (v := 0) S hr rfl hlk hAe hw (Nat.le_of_ble_eq_true rfl) (Nat.le_of_ble_eq_true rfl) (⟨mf30, rfl, (show (mf30 2).toInt = (mf 2).toInt from by first | exact e33 | omega), (show (mf30 3).toInt = (mf 3).toInt from by first | exact e34 | omega), (show (mf30 10).toInt = (mf 10).toInt from by first | exact e35 | omega)⟩) d_Mo_disk_32
abbrev b_Mo_setDisk : ByteArray := prog_14_method_37_code
def y_Mo_setDisk : MethodName := ⟨"HomeSystemModel", "setDisk", "(II)V"⟩
theorem d_Mo_setDisk_0 : decode b_Mo_setDisk 0 = .ok (.aload_n 0, 1) := by decide +kernel
theorem d_Mo_setDisk_1 : decode b_Mo_setDisk 1 = .ok (.iload_n 1, 1) := by decide +kernel
theorem d_Mo_setDisk_2 : decode b_Mo_setDisk 2 = .ok (.ifCond .lt 9, 3) := by decide +kernel
theorem d_Mo_setDisk_5 : decode b_Mo_setDisk 5 = .ok (.iload_n 1, 1) := by decide +kernel
theorem d_Mo_setDisk_6 : decode b_Mo_setDisk 6 = .ok (.bipush 127, 2) := by decide +kernel
theorem d_Mo_setDisk_8 : decode b_Mo_setDisk 8 = .ok (.if_icmp .le 7, 3) := by decide +kernel
theorem d_Mo_setDisk_11 : decode b_Mo_setDisk 11 = .ok (.iconst 1, 1) := by decide +kernel
theorem d_Mo_setDisk_12 : decode b_Mo_setDisk 12 = .ok (.goto 4, 3) := by decide +kernel
theorem d_Mo_setDisk_15 : decode b_Mo_setDisk 15 = .ok (.iconst 0, 1) := by decide +kernel
theorem d_Mo_setDisk_16 : decode b_Mo_setDisk 16 = .ok (.invokevirtual 236, 3) := by decide +kernel
theorem d_Mo_setDisk_19 : decode b_Mo_setDisk 19 = .ok (.ifCond .ne 10, 3) := by decide +kernel
theorem d_Mo_setDisk_22 : decode b_Mo_setDisk 22 = .ok (.aload_n 0, 1) := by decide +kernel
theorem d_Mo_setDisk_23 : decode b_Mo_setDisk 23 = .ok (.getfield 25, 3) := by decide +kernel
theorem d_Mo_setDisk_26 : decode b_Mo_setDisk 26 = .ok (.iload_n 1, 1) := by decide +kernel
theorem d_Mo_setDisk_27 : decode b_Mo_setDisk 27 = .ok (.iload_n 2, 1) := by decide +kernel
theorem d_Mo_setDisk_28 : decode b_Mo_setDisk 28 = .ok (.iastore, 1) := by decide +kernel
theorem d_Mo_setDisk_29 : decode b_Mo_setDisk 29 = .ok (.return_, 1) := by decide +kernel
theorem q_Mo_setDisk : px_y y_Mo_setDisk 2 := by unfold px_y; decide +kernel
set_option maxHeartbeats 4000000 in
set_option maxRecDepth 100000 in
theorem c_mo_setDisk (l : Launch) (D : va_G) (cs : Nat → ClassId) (mo : Nat) (mr : Nat → Nat) (mf : Nat → Int32) (md : Nat → Nat → Int32) (hq : Nat → Nat) (qr : Nat → Nat → Nat) (QO : Nat → Option Nat) (QF : Nat → Nat → Int32) (QA : Nat → Nat → Nat → Int32) (PG : Nat → Pgs) (p0 p1 : Int32)  (hpn : PrN QF) (hpg : PgA PG) : MetV l y_Mo_setDisk b_Mo_setDisk 3 D cs 1 40 (0) (0) [.ref mo, .int p0, .int p1] [wd_Mo cs mo mr (fun _ => none) mf md (gMo PG hq), fm 13 (fPr cs hq qr QO QF QA), fm 8 (fPg cs PG)] (fun _ => True) (fun ps => ∃ (mf' : Nat → Int32) (md' : Nat → Nat → Int32), (ps = [wd_Mo cs mo mr (fun _ => none) mf' md' (gMo PG hq), fm 13 (fPr cs hq qr QO QF QA), fm 8 (fPg cs PG)]) ∧ ((mf' 2).toInt = (mf 2).toInt) ∧ ((mf' 3).toInt = (mf 3).toInt) ∧ ((mf' 10).toInt = (mf 10).toInt) ∧ (Md1 md md') ∧ (((mf' 0).toInt = 0 ∧ 0 ≤ p0.toInt ∧ p0.toInt ≤ 127) ∨ ((mf' 0).toInt = 1 ∧ (p0.toInt < 0 ∨ 127 < p0.toInt)))) := by
  refine px_enter (by decide) (Nat.le_of_ble_eq_true rfl) ?_
  intro p e s m below meth c A ls hAe S hr hlk hnm hA hT hX hw hl
  have hl : lv_has ls 3 [(0, .ref mo), (1, .int p0), (2, .int p1)] := hl
  have lp0 := Int32.le_toInt p0
  have up0 := Int32.toInt_lt p0
  have lp1 := Int32.le_toInt p1
  have up1 := Int32.toInt_lt p1
  have cst0 : (0 : Int32).toInt = 0 := rfl
  have cst1 : (1 : Int32).toInt = 1 := rfl
  have cst127 : (127 : Int32).toInt = 127 := rfl
  have hmdq : Md1 md md := rfl
  refine lv_aload_n S.x S.b d_Mo_setDisk_0 rfl (lv_at hl 0 rfl) ?_
  refine lv_iload_n S.x S.b d_Mo_setDisk_1 rfl (lv_at hl 1 rfl) ?_
  refine lv_if_lt (tgt := 11) S.x S.b d_Mo_setDisk_2 (by decide) (fun c1 => ?_) (fun c1 => ?_)
  · have nc1 : p0.toInt < (0 : Int) := (i_lt (x := p0) (y := 0)).mp c1
    refine lv_iconst (v := 1) S.x S.b d_Mo_setDisk_11 (by decide) ?_
    refine lv_goto (tgt := 16) S.x S.b d_Mo_setDisk_12 (by decide) ?_
    refine px_calli (pr := []) (px_runV (As := [.int 1]) (rest := []) S (c_mo_refused l D cs mo mr md mf hq qr QO QF QA PG 1  (show 0 ≤ (1 : Int) from by first | exact oz_19c3a41681 | omega) (show (1 : Int) ≤ 1 from by first | exact oz_f9181dc4bb | omega) hpn hpg _) hT (pr := []) (pcs := [wd_Mo cs mo mr (fun _ => none) mf md (gMo PG hq), fm 13 (fPr cs hq qr QO QF QA), fm 8 (fPg cs PG)]) hw px_X.tt (px_recv hT hw 0 0 rfl rfl rfl) m14_184 m14_181 m14_183 ms_17_7 m1_20 q_Mo_refused ⟨Nat.le_of_ble_eq_true rfl, Nat.le_of_ble_eq_true rfl⟩ hl.1 rfl (Nat.le_of_ble_eq_true rfl) d_Mo_setDisk_16 ⟨Nat.le_of_ble_eq_true rfl, Nat.le_of_ble_eq_true rfl⟩) hw hA (fun v6 p5 H locs hp5 hw => ?_)
    obtain ⟨mf4, rfl, e7, e8, e9, e10, e11⟩ := hp5
    have e7 : (mf4 2).toInt = (mf 2).toInt := e7
    have e8 : (mf4 3).toInt = (mf 3).toInt := e8
    have e9 : (mf4 10).toInt = (mf 10).toInt := e9
    have e10 : v6.toInt = (1 : Int) := e10
    have e11 : (mf4 0).toInt = (1 : Int) := e11
    have hw : pw D A s.heap H locs [wd_Mo cs mo mr (fun _ => none) mf4 md (gMo PG hq), fm 13 (fPr cs hq qr QO QF QA), fm 8 (fPg cs PG)] := hw
    have lv6 := Int32.le_toInt v6
    have uv6 := Int32.toInt_lt v6
    refine lv_if_ne (tgt := 29) S.x S.b d_Mo_setDisk_19 (by decide) (fun c12 => ?_) (fun c12 => ?_)
    · have nc12 : ¬ v6.toInt = (0 : Int) := mt (i_eq (x := v6) (y := 0)).mpr c12
      exact px_vret S hr hlk hAe hw (Nat.le_of_ble_eq_true rfl) (Nat.le_of_ble_eq_true rfl) (⟨mf4, md, rfl, (show (mf4 2).toInt = (mf 2).toInt from by first | exact e7 | omega), (show (mf4 3).toInt = (mf 3).toInt from by first | exact e8 | omega), (show (mf4 10).toInt = (mf 10).toInt from by first | exact e9 | omega), (show Md1 md md from hmdq), (show ((mf4 0).toInt = 0 ∧ 0 ≤ p0.toInt ∧ p0.toInt ≤ 127) ∨ ((mf4 0).toInt = 1 ∧ (p0.toInt < 0 ∨ 127 < p0.toInt)) from by omega)⟩) d_Mo_setDisk_29
    · have nc12 : v6.toInt = (0 : Int) := (i_eq (x := v6) (y := 0)).mp c12
      refine lv_aload_n S.x S.b d_Mo_setDisk_22 rfl (lv_at hl 0 rfl) ?_
      refine px_get S k_Mo hT hw 0 0 6 (v := .ref (mr 6)) rfl rfl rfl (by decide) m11_84 d_Mo_setDisk_23 ?_
      refine lv_iload_n S.x S.b d_Mo_setDisk_26 rfl (lv_at hl 1 rfl) ?_
      refine lv_iload_n S.x S.b d_Mo_setDisk_27 rfl (lv_at hl 2 rfl) ?_
      refine px_iast S hT hw 0 4 (n := 128) (f := (md 6)) (x := p0) (y := p1) rfl (ga_Mo_6 _ _ _ _ _ _ _) (vp_in_iff.mpr (by constructor <;> omega)) d_Mo_setDisk_28 (w' := wd_Mo cs mo mr (fun _ => none) mf4 (va_up md 6 (upd (md 6) p0.toNatClampNeg p1)) (gMo PG hq)) (ps' := [wd_Mo cs mo mr (fun _ => none) mf4 (va_up md 6 (upd (md 6) p0.toNatClampNeg p1)) (gMo PG hq), fm 13 (fPr cs hq qr QO QF QA), fm 8 (fPg cs PG)]) (sa_Mo_6 _ _ _ _ _ _ _ _) rfl (fun H locs hw => ?_)
      exact px_vret S hr hlk hAe hw (Nat.le_of_ble_eq_true rfl) (Nat.le_of_ble_eq_true rfl) (⟨mf4, (va_up md 6 (upd (md 6) p0.toNatClampNeg p1)), rfl, (show (mf4 2).toInt = (mf 2).toInt from by first | exact e7 | omega), (show (mf4 3).toInt = (mf 3).toInt from by first | exact e8 | omega), (show (mf4 10).toInt = (mf 10).toInt from by first | exact e9 | omega), (show Md1 md (va_up md 6 (upd (md 6) p0.toNatClampNeg p1)) from hmdq), (show ((mf4 0).toInt = 0 ∧ 0 ≤ p0.toInt ∧ p0.toInt ≤ 127) ∨ ((mf4 0).toInt = 1 ∧ (p0.toInt < 0 ∨ 127 < p0.toInt)) from by omega)⟩) d_Mo_setDisk_29
  · have nc1 : ¬ p0.toInt < (0 : Int) := mt (i_lt (x := p0) (y := 0)).mpr c1
    refine lv_iload_n S.x S.b d_Mo_setDisk_5 rfl (lv_at hl 1 rfl) ?_
    refine lv_bipush (v := 127) S.x S.b d_Mo_setDisk_6 (by decide) ?_
    refine lv_icmp_le (tgt := 15) S.x S.b d_Mo_setDisk_8 (by decide) (fun c14 => ?_) (fun c14 => ?_)
    · have nc14 : p0.toInt ≤ (127 : Int) := (i_le (x := p0) (y := 127)).mp c14
      refine lv_iconst (v := 0) S.x S.b d_Mo_setDisk_15 (by decide) ?_
      refine px_calli (pr := []) (px_runV (As := [.int 0]) (rest := []) S (c_mo_refused l D cs mo mr md mf hq qr QO QF QA PG 0  (show 0 ≤ (0 : Int) from by first | exact oz_5a341f00aa | omega) (show (0 : Int) ≤ 1 from by first | exact oz_6e68cd0f48 | omega) hpn hpg _) hT (pr := []) (pcs := [wd_Mo cs mo mr (fun _ => none) mf md (gMo PG hq), fm 13 (fPr cs hq qr QO QF QA), fm 8 (fPg cs PG)]) hw px_X.tt (px_recv hT hw 0 0 rfl rfl rfl) m14_184 m14_181 m14_183 ms_17_7 m1_20 q_Mo_refused ⟨Nat.le_of_ble_eq_true rfl, Nat.le_of_ble_eq_true rfl⟩ hl.1 rfl (Nat.le_of_ble_eq_true rfl) d_Mo_setDisk_16 ⟨Nat.le_of_ble_eq_true rfl, Nat.le_of_ble_eq_true rfl⟩) hw hA (fun v19 p18 H locs hp18 hw => ?_)
      obtain ⟨mf17, rfl, e20, e21, e22, e23, e24⟩ := hp18
      have e20 : (mf17 2).toInt = (mf 2).toInt := e20
      have e21 : (mf17 3).toInt = (mf 3).toInt := e21
      have e22 : (mf17 10).toInt = (mf 10).toInt := e22
      have e23 : v19.toInt = (0 : Int) := e23
      have e24 : (mf17 0).toInt = (0 : Int) := e24
      have hw : pw D A s.heap H locs [wd_Mo cs mo mr (fun _ => none) mf17 md (gMo PG hq), fm 13 (fPr cs hq qr QO QF QA), fm 8 (fPg cs PG)] := hw
      have lv19 := Int32.le_toInt v19
      have uv19 := Int32.toInt_lt v19
      refine lv_if_ne (tgt := 29) S.x S.b d_Mo_setDisk_19 (by decide) (fun c25 => ?_) (fun c25 => ?_)
      · have nc25 : ¬ v19.toInt = (0 : Int) := mt (i_eq (x := v19) (y := 0)).mpr c25
        exact px_vret S hr hlk hAe hw (Nat.le_of_ble_eq_true rfl) (Nat.le_of_ble_eq_true rfl) (⟨mf17, md, rfl, (show (mf17 2).toInt = (mf 2).toInt from by first | exact e20 | omega), (show (mf17 3).toInt = (mf 3).toInt from by first | exact e21 | omega), (show (mf17 10).toInt = (mf 10).toInt from by first | exact e22 | omega), (show Md1 md md from hmdq), (show ((mf17 0).toInt = 0 ∧ 0 ≤ p0.toInt ∧ p0.toInt ≤ 127) ∨ ((mf17 0).toInt = 1 ∧ (p0.toInt < 0 ∨ 127 < p0.toInt)) from by omega)⟩) d_Mo_setDisk_29
      · have nc25 : v19.toInt = (0 : Int) := (i_eq (x := v19) (y := 0)).mp c25
        refine lv_aload_n S.x S.b d_Mo_setDisk_22 rfl (lv_at hl 0 rfl) ?_
        refine px_get S k_Mo hT hw 0 0 6 (v := .ref (mr 6)) rfl rfl rfl (by decide) m11_84 d_Mo_setDisk_23 ?_
        refine lv_iload_n S.x S.b d_Mo_setDisk_26 rfl (lv_at hl 1 rfl) ?_
        refine lv_iload_n S.x S.b d_Mo_setDisk_27 rfl (lv_at hl 2 rfl) ?_
        refine px_iast S hT hw 0 4 (n := 128) (f := (md 6)) (x := p0) (y := p1) rfl (ga_Mo_6 _ _ _ _ _ _ _) (vp_in_iff.mpr (by constructor <;> omega)) d_Mo_setDisk_28 (w' := wd_Mo cs mo mr (fun _ => none) mf17 (va_up md 6 (upd (md 6) p0.toNatClampNeg p1)) (gMo PG hq)) (ps' := [wd_Mo cs mo mr (fun _ => none) mf17 (va_up md 6 (upd (md 6) p0.toNatClampNeg p1)) (gMo PG hq), fm 13 (fPr cs hq qr QO QF QA), fm 8 (fPg cs PG)]) (sa_Mo_6 _ _ _ _ _ _ _ _) rfl (fun H locs hw => ?_)
        exact px_vret S hr hlk hAe hw (Nat.le_of_ble_eq_true rfl) (Nat.le_of_ble_eq_true rfl) (⟨mf17, (va_up md 6 (upd (md 6) p0.toNatClampNeg p1)), rfl, (show (mf17 2).toInt = (mf 2).toInt from by first | exact e20 | omega), (show (mf17 3).toInt = (mf 3).toInt from by first | exact e21 | omega), (show (mf17 10).toInt = (mf 10).toInt from by first | exact e22 | omega), (show Md1 md (va_up md 6 (upd (md 6) p0.toNatClampNeg p1)) from hmdq), (show ((mf17 0).toInt = 0 ∧ 0 ≤ p0.toInt ∧ p0.toInt ≤ 127) ∨ ((mf17 0).toInt = 1 ∧ (p0.toInt < 0 ∨ 127 < p0.toInt)) from by omega)⟩) d_Mo_setDisk_29
    · have nc14 : ¬ p0.toInt ≤ (127 : Int) := mt (i_le (x := p0) (y := 127)).mpr c14
      refine lv_iconst (v := 1) S.x S.b d_Mo_setDisk_11 (by decide) ?_
      refine lv_goto (tgt := 16) S.x S.b d_Mo_setDisk_12 (by decide) ?_
      refine px_calli (pr := []) (px_runV (As := [.int 1]) (rest := []) S (c_mo_refused l D cs mo mr md mf hq qr QO QF QA PG 1  (show 0 ≤ (1 : Int) from by first | exact oz_19c3a41681 | omega) (show (1 : Int) ≤ 1 from by first | exact oz_f9181dc4bb | omega) hpn hpg _) hT (pr := []) (pcs := [wd_Mo cs mo mr (fun _ => none) mf md (gMo PG hq), fm 13 (fPr cs hq qr QO QF QA), fm 8 (fPg cs PG)]) hw px_X.tt (px_recv hT hw 0 0 rfl rfl rfl) m14_184 m14_181 m14_183 ms_17_7 m1_20 q_Mo_refused ⟨Nat.le_of_ble_eq_true rfl, Nat.le_of_ble_eq_true rfl⟩ hl.1 rfl (Nat.le_of_ble_eq_true rfl) d_Mo_setDisk_16 ⟨Nat.le_of_ble_eq_true rfl, Nat.le_of_ble_eq_true rfl⟩) hw hA (fun v30 p29 H locs hp29 hw => ?_)
      obtain ⟨mf28, rfl, e31, e32, e33, e34, e35⟩ := hp29
      have e31 : (mf28 2).toInt = (mf 2).toInt := e31
      have e32 : (mf28 3).toInt = (mf 3).toInt := e32
      have e33 : (mf28 10).toInt = (mf 10).toInt := e33
      have e34 : v30.toInt = (1 : Int) := e34
      have e35 : (mf28 0).toInt = (1 : Int) := e35
      have hw : pw D A s.heap H locs [wd_Mo cs mo mr (fun _ => none) mf28 md (gMo PG hq), fm 13 (fPr cs hq qr QO QF QA), fm 8 (fPg cs PG)] := hw
      have lv30 := Int32.le_toInt v30
      have uv30 := Int32.toInt_lt v30
      refine lv_if_ne (tgt := 29) S.x S.b d_Mo_setDisk_19 (by decide) (fun c36 => ?_) (fun c36 => ?_)
      · have nc36 : ¬ v30.toInt = (0 : Int) := mt (i_eq (x := v30) (y := 0)).mpr c36
        exact px_vret S hr hlk hAe hw (Nat.le_of_ble_eq_true rfl) (Nat.le_of_ble_eq_true rfl) (⟨mf28, md, rfl, (show (mf28 2).toInt = (mf 2).toInt from by first | exact e31 | omega), (show (mf28 3).toInt = (mf 3).toInt from by first | exact e32 | omega), (show (mf28 10).toInt = (mf 10).toInt from by first | exact e33 | omega), (show Md1 md md from hmdq), (show ((mf28 0).toInt = 0 ∧ 0 ≤ p0.toInt ∧ p0.toInt ≤ 127) ∨ ((mf28 0).toInt = 1 ∧ (p0.toInt < 0 ∨ 127 < p0.toInt)) from by omega)⟩) d_Mo_setDisk_29
      · have nc36 : v30.toInt = (0 : Int) := (i_eq (x := v30) (y := 0)).mp c36
        refine lv_aload_n S.x S.b d_Mo_setDisk_22 rfl (lv_at hl 0 rfl) ?_
        refine px_get S k_Mo hT hw 0 0 6 (v := .ref (mr 6)) rfl rfl rfl (by decide) m11_84 d_Mo_setDisk_23 ?_
        refine lv_iload_n S.x S.b d_Mo_setDisk_26 rfl (lv_at hl 1 rfl) ?_
        refine lv_iload_n S.x S.b d_Mo_setDisk_27 rfl (lv_at hl 2 rfl) ?_
        refine px_iast S hT hw 0 4 (n := 128) (f := (md 6)) (x := p0) (y := p1) rfl (ga_Mo_6 _ _ _ _ _ _ _) (vp_in_iff.mpr (by constructor <;> omega)) d_Mo_setDisk_28 (w' := wd_Mo cs mo mr (fun _ => none) mf28 (va_up md 6 (upd (md 6) p0.toNatClampNeg p1)) (gMo PG hq)) (ps' := [wd_Mo cs mo mr (fun _ => none) mf28 (va_up md 6 (upd (md 6) p0.toNatClampNeg p1)) (gMo PG hq), fm 13 (fPr cs hq qr QO QF QA), fm 8 (fPg cs PG)]) (sa_Mo_6 _ _ _ _ _ _ _ _) rfl (fun H locs hw => ?_)
        exact px_vret S hr hlk hAe hw (Nat.le_of_ble_eq_true rfl) (Nat.le_of_ble_eq_true rfl) (⟨mf28, (va_up md 6 (upd (md 6) p0.toNatClampNeg p1)), rfl, (show (mf28 2).toInt = (mf 2).toInt from by first | exact e31 | omega), (show (mf28 3).toInt = (mf 3).toInt from by first | exact e32 | omega), (show (mf28 10).toInt = (mf 10).toInt from by first | exact e33 | omega), (show Md1 md (va_up md 6 (upd (md 6) p0.toNatClampNeg p1)) from hmdq), (show ((mf28 0).toInt = 0 ∧ 0 ≤ p0.toInt ∧ p0.toInt ≤ 127) ∨ ((mf28 0).toInt = 1 ∧ (p0.toInt < 0 ∨ 127 < p0.toInt)) from by omega)⟩) d_Mo_setDisk_29
