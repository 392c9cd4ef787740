theorem oz_a285d860c8 {a0 : Int} (h0 : 0 ≤ a0) (h1 : a0 = (0 : Int)) : (0 : Int) = a0 := by omega
theorem oz_3b54ae692d {a0 : Int} (h0 : 0 ≤ a0) (h1 : ¬ a0 = (0 : Int)) (h2 : a0 ≤ 1) : (1 : Int) = a0 := by omega
theorem oz_c8540bec21 {a0 a1 a2 : Int} (h0 : a0 = a1 + a2) (h1 : 0 ≤ a1) (h2 : (20 : Int) ≤ a2) : 0 ≤ a0 := by omega
theorem oz_dc3b43e308 {a0 a1 a2 : Int} (h0 : a0 = a1 + a2) (h1 : a1 + 20 ≤ 2048) (h2 : a2 ≤ 20) : a0 ≤ 2048 := by omega
theorem oz_c825822485 {a0 a1 a2 a3 a4 : Int} (h0 : a3 = a1 + a4) (h1 : a0 = a3 + (1 : Int)) (h2 : a2 = a4 + 1) : a0 = a1 + a2 := by omega
theorem oz_3f0356654e {a0 a1 : Int} (h0 : a0 = a1 + 1) (h1 : (16 : Int) ≤ a1) : 0 ≤ a0 := by omega
theorem oz_e36a6178ce {a0 a1 : Int} (h0 : a0 = a1 + 1) (h1 : ¬ (20 : Int) ≤ a1) : a0 ≤ 20 := by omega
theorem oz_ac4816bc14 {a0 a2 : Int} {n1 : Nat} (h0 : 20 - a2 < ((n1 + 1 : Nat) : Int)) (h1 : a0 = a2 + 1) : 20 - a0 < (n1 : Int) := by omega
theorem oz_d97b138c9b {a0 a1 : Int} (h0 : a0 = a1 + 1) (h1 : ¬ (16 : Int) ≤ a1) : a0 ≤ 20 := by omega
theorem oz_5caae207a3 {a0 a1 : Int} (h0 : a0 = a1 + 1) (h1 : (8 : Int) ≤ a1) : 0 ≤ a0 := by omega
theorem oz_9b6247bf60 {a0 a1 : Int} (h0 : a0 = a1 + 1) (h1 : ¬ (12 : Int) ≤ a1) : a0 ≤ 20 := by omega
theorem oz_98bba6c895 {a0 a1 : Int} (h0 : a0 = a1 + 1) (h1 : (4 : Int) ≤ a1) : 0 ≤ a0 := by omega
theorem oz_da72bd3676 {a0 a1 : Int} (h0 : a0 = a1 + 1) (h1 : ¬ (8 : Int) ≤ a1) : a0 ≤ 20 := by omega
theorem oz_2e13a9180d {a0 a1 : Int} (h0 : a0 = a1 + 1) (h1 : ¬ (4 : Int) ≤ a1) : a0 ≤ 20 := by omega
theorem oz_d0b413ca20 {a0 a1 : Int} (h0 : a1 = a0 + (20 : Int)) (h1 : a1 ≤ (2048 : Int)) : a0 + 20 ≤ 2048 := by omega
theorem oz_32ba32251b {a0 a1 : Int} (h0 : a0 ≤ a1) (h1 : a1 ≤ 2048) : a0 ≤ 2048 := by omega
theorem oz_e25e63ef09 {a0 a1 a2 : Int} (h0 : a1 = a2) (h1 : a1 = (0 : Int)) (h2 : 0 ≤ a2) (h3 : a2 = 0 → 0 ≤ a0 ∧ a0 < 13) : 0 ≤ a0 ∧ a0 < ((13 : Nat) : Int) := by omega
theorem oz_1a2df8431c {a1 a2 a3 : Int} {n0 : Nat} (h0 : (n0 : Int) = a1) (h1 : a2 = a3) (h2 : a2 = (0 : Int)) (h3 : 0 ≤ a3) (h4 : a3 = 0 → 0 ≤ a1 ∧ a1 < 13) : n0 < 13 := by omega
theorem oz_3859d57d28 {a0 : Int} {n1 : Nat} (h0 : (n1 : Int) = a0) (h1 : n1 < 13) : 0 ≤ a0 ∧ a0 < ((13 : Nat) : Int) := by omega
theorem oz_a38e3fbd8b {a0 a1 : Int} (h0 : a1 = (0 : Int)) (h1 : 0 ≤ a1) (h2 : a1 = 0 → 0 ≤ a0 ∧ a0 < 13) : 0 ≤ a0 ∧ a0 < ((13 : Nat) : Int) := by omega
theorem oz_e07a039f23 {a1 a2 : Int} {n0 : Nat} (h0 : (n0 : Int) = a1) (h1 : a2 = (0 : Int)) (h2 : 0 ≤ a2) (h3 : a2 = 0 → 0 ≤ a1 ∧ a1 < 13) : n0 < 13 := by omega
theorem oz_6cbab4594c {a0 : Int} (h0 : ¬ a0 < (0 : Int)) (h1 : ¬ (255 : Int) < a0) : 0 ≤ a0 ∧ a0 < ((256 : Nat) : Int) := by omega
theorem oz_62a23ed4d6 {a1 : Int} {n0 : Nat} (h0 : (n0 : Int) = a1) (h1 : a1 < (1 : Int)) : n0 < 13 := by omega
theorem oz_5602c1b1f7 {a0 : Int} {n1 : Nat} (h0 : (n1 : Int) = a0) (h1 : a0 < (1 : Int)) : 0 ≤ a0 ∧ a0 < ((13 : Nat) : Int) := by omega
theorem oz_63f4c236b1 {a0 : Int} (h0 : ¬ a0 < (1 : Int)) (h1 : a0 < (13 : Int)) : 0 ≤ a0 ∧ a0 < ((13 : Nat) : Int) := by omega
theorem oz_493f3b5f7b {a1 : Int} {n0 : Nat} (h0 : (n0 : Int) = a1) (h1 : a1 < (13 : Int)) : n0 < 13 := by omega
theorem oz_2ead38c026 {a0 : Int} (h0 : ¬ a0 < (13 : Int)) : 0 ≤ a0 := by omega
theorem oz_41c7eadd92 {a0 : Int} {n1 : Nat} (h0 : ¬ a0 < (13 : Int)) (h1 : (n1 : Int) = a0) (h2 : n1 < 13) : 0 ≤ a0 ∧ a0 < ((13 : Nat) : Int) := by omega
theorem oz_a45469f712 {a0 : Int} (h0 : ¬ a0 < (0 : Int)) (h1 : a0 ≤ (127 : Int)) : 0 ≤ a0 ∧ a0 < ((128 : Nat) : Int) := by omega
theorem m11_79 : Cond.fieldLink "HomeSystemModel" 7 "HomeSystemModel" "tape" "[B" ∈ AL := AL_11 (List.mem_of_getElem? (i := 79) rfl) rfl
theorem m11_80 : Cond.fieldLink "HomeSystemModel" 38 "HomeSystemModel" "taped" "I" ∈ AL := AL_11 (List.mem_of_getElem? (i := 80) rfl) rfl
theorem m11_81 : Cond.fieldLink "HomeSystemModel" 52 "HomeSystemModel" "place" "I" ∈ AL := AL_11 (List.mem_of_getElem? (i := 81) rfl) rfl
theorem m13_147 : Cond.constant "HomeSystemModel" 64 (100000) ∈ AL := AL_13 (List.mem_of_getElem? (i := 147) rfl) rfl
theorem m14_178 : Cond.methodLink "HomeSystemModel" 233 ⟨"HomeSystemModel", "isNone", "(I)Z"⟩ ∈ AL := AL_14 (List.mem_of_getElem? (i := 178) rfl) rfl
theorem m14_180 : Cond.code ⟨"HomeSystemModel", "isNone", "(I)Z"⟩ prog_14_method_30_code 1 (Option.some FieldType.boolean) ∈ AL := AL_14 (List.mem_of_getElem? (i := 180) rfl) rfl
theorem m14_179 : Cond.static ⟨"HomeSystemModel", "isNone", "(I)Z"⟩ ∈ AL := AL_14 (List.mem_of_getElem? (i := 179) rfl) rfl
theorem m14_181 : Cond.methodLink "HomeSystemModel" 236 ⟨"HomeSystemModel", "refused", "(Z)Z"⟩ ∈ AL := AL_14 (List.mem_of_getElem? (i := 181) rfl) rfl
theorem m14_184 : Cond.code ⟨"HomeSystemModel", "refused", "(Z)Z"⟩ prog_14_method_29_code 2 (Option.some FieldType.boolean) ∈ AL := AL_14 (List.mem_of_getElem? (i := 184) rfl) rfl
theorem ms_17_7 : Cond.selects "HomeSystemModel" ⟨"HomeSystemModel", "refused", "(Z)Z"⟩ ⟨"HomeSystemModel", "refused", "(Z)Z"⟩ ∈ AL := AL_p (q := (⟨"HomeSystemModel", "refused", "(Z)Z"⟩, 11)) (by unfold lw_privs; exact List.mem_append_right _ (List.mem_append_right _ (List.mem_append_right _ (List.mem_append_right _ (List.mem_append_right _ (List.mem_append_right _ (List.mem_append_right _ (List.mem_append_right _ (List.mem_append_right _ (List.mem_append_right _ (List.mem_append_right _ (List.mem_append_right _ (List.mem_append_right _ (List.mem_append_right _ (List.mem_append_right _ (List.mem_append_right _ (List.mem_of_getElem? (i := 7) rfl)))))))))))))))))
theorem m14_183 : Cond.instanceMethod ⟨"HomeSystemModel", "refused", "(Z)Z"⟩ ∈ AL := AL_14 (List.mem_of_getElem? (i := 183) rfl) rfl
theorem m11_24 : Cond.fieldLink "HomeSystemModel" 240 "HomeSystemModel$Process" "papers" "[I" ∈ AL := AL_11 (List.mem_of_getElem? (i := 24) rfl) rfl
abbrev b_Mo_refused : ByteArray := prog_14_method_29_code
def y_Mo_refused : MethodName := ⟨"HomeSystemModel", "refused", "(Z)Z"⟩
theorem d_Mo_refused_0 : decode b_Mo_refused 0 = .ok (.aload_n 0, 1) := by decide +kernel
theorem d_Mo_refused_1 : decode b_Mo_refused 1 = .ok (.iload_n 1, 1) := by decide +kernel
theorem d_Mo_refused_2 : decode b_Mo_refused 2 = .ok (.ifCond .eq 7, 3) := by decide +kernel
theorem d_Mo_refused_5 : decode b_Mo_refused 5 = .ok (.iconst 1, 1) := by decide +kernel
theorem d_Mo_refused_6 : decode b_Mo_refused 6 = .ok (.goto 4, 3) := by decide +kernel
theorem d_Mo_refused_9 : decode b_Mo_refused 9 = .ok (.iconst 0, 1) := by decide +kernel
theorem d_Mo_refused_10 : decode b_Mo_refused 10 = .ok (.putfield 35, 3) := by decide +kernel
theorem d_Mo_refused_13 : decode b_Mo_refused 13 = .ok (.iload_n 1, 1) := by decide +kernel
theorem d_Mo_refused_14 : decode b_Mo_refused 14 = .ok (.ireturn, 1) := by decide +kernel
theorem q_Mo_refused : px_y y_Mo_refused 1 := by unfold px_y; decide +kernel
set_option maxHeartbeats 4000000 in
set_option maxRecDepth 100000 in
theorem c_mo_refused (l : Launch) (D : va_G) (cs : Nat → ClassId) (mo : Nat) (mr : Nat → Nat) (md : Nat → Nat → Int32) (mf : Nat → Int32) (hq : Nat → Nat) (qr : Nat → Nat → Nat) (QO : Nat → Option Nat) (QF : Nat → Nat → Int32) (QA : Nat → Nat → Nat → Int32) (PG : Nat → Pgs) (p0 : Int32)  (g0 : 0 ≤ p0.toInt) (g1 : p0.toInt ≤ 1) (hpn : PrN QF) (hpg : PgA PG) : MetI l y_Mo_refused b_Mo_refused 2 (.boolean) D cs 0 0 (0) (0) [.ref mo, .int p0] [wd_Mo cs mo mr (fun _ => none) mf md (gMo PG hq), fm 13 (fPr cs hq qr QO QF QA), fm 8 (fPg cs PG)] (fun _ => True) (fun v ps => ∃ (mf' : Nat → Int32), (ps = [wd_Mo cs mo mr (fun _ => none) mf' md (gMo PG hq), fm 13 (fPr cs hq qr QO QF QA), fm 8 (fPg cs PG)]) ∧ ((mf' 2).toInt = (mf 2).toInt) ∧ ((mf' 3).toInt = (mf 3).toInt) ∧ ((mf' 10).toInt = (mf 10).toInt) ∧ (v.toInt = p0.toInt) ∧ ((mf' 0).toInt = p0.toInt)) := by
  refine px_enter (by decide) (Nat.le_of_ble_eq_true rfl) ?_
  intro p e s m below meth c A ls hAe S hr hlk hnm hA hT hX hw hl
  replace hl : lv_has ls 2 [(0, .ref mo), (1, .int p0)] := hl
  have lp0 := Int32.le_toInt p0
  have up0 := Int32.toInt_lt p0
  have cst0 : (0 : Int32).toInt = 0 := rfl
  have cst1 : (1 : Int32).toInt = 1 := rfl
  refine lv_aload_n S.x S.b d_Mo_refused_0 rfl (lv_at hl 0 rfl) ?_
  refine lv_iload_n S.x S.b d_Mo_refused_1 rfl (lv_at hl 1 rfl) ?_
  refine lv_if_eq (tgt := 9) S.x S.b d_Mo_refused_2 (by decide) (fun c1 => ?_) (fun c1 => ?_)
  · have nc1 : p0.toInt = (0 : Int) := (i_eq (x := p0) (y := 0)).mp c1
    refine lv_iconst (v := 0) S.x S.b d_Mo_refused_9 (by decide) ?_
    refine px_put S k_Mo hT hw 0 0 0 rfl rfl (by decide) m11_78 rfl rfl rfl (Nat.le_of_ble_eq_true rfl) d_Mo_refused_10 (w' := wd_Mo cs mo mr (fun _ => none) (upd mf 0 0) md (gMo PG hq)) (ps' := [wd_Mo cs mo mr (fun _ => none) (upd mf 0 0) md (gMo PG hq), fm 13 (fPr cs hq qr QO QF QA), fm 8 (fPg cs PG)]) rfl rfl (fun H locs hw => ?_)
    refine lv_iload_n S.x S.b d_Mo_refused_13 rfl (lv_at hl 1 rfl) ?_
    exact px_iret (v := p0) S hr (z_nar (by omega)) hlk hAe hw (Nat.le_of_ble_eq_true rfl) (Nat.le_of_ble_eq_true rfl) (⟨(upd mf 0 0), rfl, (show (mf 2).toInt = (mf 2).toInt from rfl), (show (mf 3).toInt = (mf 3).toInt from rfl), (show (mf 10).toInt = (mf 10).toInt from rfl), (show p0.toInt = p0.toInt from rfl), (show (0 : Int) = p0.toInt from by first | exact oz_a285d860c8 g0 nc1 | omega)⟩) d_Mo_refused_14
  · have nc1 : ¬ p0.toInt = (0 : Int) := mt (i_eq (x := p0) (y := 0)).mpr c1
    refine lv_iconst (v := 1) S.x S.b d_Mo_refused_5 (by decide) ?_
    refine lv_goto (tgt := 10) S.x S.b d_Mo_refused_6 (by decide) ?_
    refine px_put S k_Mo hT hw 0 0 0 rfl rfl (by decide) m11_78 rfl rfl rfl (Nat.le_of_ble_eq_true rfl) d_Mo_refused_10 (w' := wd_Mo cs mo mr (fun _ => none) (upd mf 0 1) md (gMo PG hq)) (ps' := [wd_Mo cs mo mr (fun _ => none) (upd mf 0 1) md (gMo PG hq), fm 13 (fPr cs hq qr QO QF QA), fm 8 (fPg cs PG)]) rfl rfl (fun H locs hw => ?_)
    refine lv_iload_n S.x S.b d_Mo_refused_13 rfl (lv_at hl 1 rfl) ?_
    exact px_iret (v := p0) S hr (z_nar (by omega)) hlk hAe hw (Nat.le_of_ble_eq_true rfl) (Nat.le_of_ble_eq_true rfl) (⟨(upd mf 0 1), rfl, (show (mf 2).toInt = (mf 2).toInt from rfl), (show (mf 3).toInt = (mf 3).toInt from rfl), (show (mf 10).toInt = (mf 10).toInt from rfl), (show p0.toInt = p0.toInt from rfl), (show (1 : Int) = p0.toInt from by first | exact oz_3b54ae692d g0 nc1 g1 | omega)⟩) d_Mo_refused_14
abbrev b_Mo_feed : ByteArray := prog_14_method_3_code
def y_Mo_feed : MethodName := ⟨"HomeSystemModel", "feed", "(IIIII)V"⟩
theorem d_Mo_feed_0 : decode b_Mo_feed 0 = .ok (.aload_n 0, 1) := by decide +kernel
theorem d_Mo_feed_1 : decode b_Mo_feed 1 = .ok (.aload_n 0, 1) := by decide +kernel
theorem d_Mo_feed_2 : decode b_Mo_feed 2 = .ok (.getfield 38, 3) := by decide +kernel
theorem d_Mo_feed_5 : decode b_Mo_feed 5 = .ok (.bipush 20, 2) := by decide +kernel
theorem d_Mo_feed_7 : decode b_Mo_feed 7 = .ok (.iadd, 1) := by decide +kernel
theorem d_Mo_feed_8 : decode b_Mo_feed 8 = .ok (.sipush 2048, 3) := by decide +kernel
theorem d_Mo_feed_11 : decode b_Mo_feed 11 = .ok (.if_icmp .le 7, 3) := by decide +kernel
theorem d_Mo_feed_14 : decode b_Mo_feed 14 = .ok (.iconst 1, 1) := by decide +kernel
theorem d_Mo_feed_15 : decode b_Mo_feed 15 = .ok (.goto 4, 3) := by decide +kernel
theorem d_Mo_feed_18 : decode b_Mo_feed 18 = .ok (.iconst 0, 1) := by decide +kernel
theorem d_Mo_feed_19 : decode b_Mo_feed 19 = .ok (.putfield 35, 3) := by decide +kernel
theorem d_Mo_feed_22 : decode b_Mo_feed 22 = .ok (.aload_n 0, 1) := by decide +kernel
theorem d_Mo_feed_23 : decode b_Mo_feed 23 = .ok (.getfield 35, 3) := by decide +kernel
theorem d_Mo_feed_26 : decode b_Mo_feed 26 = .ok (.ifCond .le 4, 3) := by decide +kernel
theorem d_Mo_feed_29 : decode b_Mo_feed 29 = .ok (.return_, 1) := by decide +kernel
theorem d_Mo_feed_30 : decode b_Mo_feed 30 = .ok (.iconst 0, 1) := by decide +kernel
theorem d_Mo_feed_31 : decode b_Mo_feed 31 = .ok (.istore 6, 2) := by decide +kernel
theorem d_Mo_feed_33 : decode b_Mo_feed 33 = .ok (.iload 6, 2) := by decide +kernel
theorem d_Mo_feed_35 : decode b_Mo_feed 35 = .ok (.bipush 20, 2) := by decide +kernel
theorem d_Mo_feed_37 : decode b_Mo_feed 37 = .ok (.if_icmp .ge 90, 3) := by decide +kernel
theorem d_Mo_feed_40 : decode b_Mo_feed 40 = .ok (.iload 6, 2) := by decide +kernel
theorem d_Mo_feed_42 : decode b_Mo_feed 42 = .ok (.iconst 4, 1) := by decide +kernel
theorem d_Mo_feed_43 : decode b_Mo_feed 43 = .ok (.if_icmp .ge 7, 3) := by decide +kernel
theorem d_Mo_feed_46 : decode b_Mo_feed 46 = .ok (.iload_n 1, 1) := by decide +kernel
theorem d_Mo_feed_47 : decode b_Mo_feed 47 = .ok (.goto 39, 3) := by decide +kernel
theorem d_Mo_feed_50 : decode b_Mo_feed 50 = .ok (.iload 6, 2) := by decide +kernel
theorem d_Mo_feed_52 : decode b_Mo_feed 52 = .ok (.bipush 8, 2) := by decide +kernel
theorem d_Mo_feed_54 : decode b_Mo_feed 54 = .ok (.if_icmp .ge 7, 3) := by decide +kernel
theorem d_Mo_feed_57 : decode b_Mo_feed 57 = .ok (.iload_n 2, 1) := by decide +kernel
theorem d_Mo_feed_58 : decode b_Mo_feed 58 = .ok (.goto 28, 3) := by decide +kernel
theorem d_Mo_feed_61 : decode b_Mo_feed 61 = .ok (.iload 6, 2) := by decide +kernel
theorem d_Mo_feed_63 : decode b_Mo_feed 63 = .ok (.bipush 12, 2) := by decide +kernel
theorem d_Mo_feed_65 : decode b_Mo_feed 65 = .ok (.if_icmp .ge 7, 3) := by decide +kernel
theorem d_Mo_feed_68 : decode b_Mo_feed 68 = .ok (.iload_n 3, 1) := by decide +kernel
theorem d_Mo_feed_69 : decode b_Mo_feed 69 = .ok (.goto 17, 3) := by decide +kernel
theorem d_Mo_feed_72 : decode b_Mo_feed 72 = .ok (.iload 6, 2) := by decide +kernel
theorem d_Mo_feed_74 : decode b_Mo_feed 74 = .ok (.bipush 16, 2) := by decide +kernel
theorem d_Mo_feed_76 : decode b_Mo_feed 76 = .ok (.if_icmp .ge 8, 3) := by decide +kernel
theorem d_Mo_feed_79 : decode b_Mo_feed 79 = .ok (.iload 4, 2) := by decide +kernel
theorem d_Mo_feed_81 : decode b_Mo_feed 81 = .ok (.goto 5, 3) := by decide +kernel
theorem d_Mo_feed_84 : decode b_Mo_feed 84 = .ok (.iload 5, 2) := by decide +kernel
theorem d_Mo_feed_86 : decode b_Mo_feed 86 = .ok (.istore 7, 2) := by decide +kernel
theorem d_Mo_feed_88 : decode b_Mo_feed 88 = .ok (.aload_n 0, 1) := by decide +kernel
theorem d_Mo_feed_89 : decode b_Mo_feed 89 = .ok (.getfield 7, 3) := by decide +kernel
theorem d_Mo_feed_92 : decode b_Mo_feed 92 = .ok (.aload_n 0, 1) := by decide +kernel
theorem d_Mo_feed_93 : decode b_Mo_feed 93 = .ok (.getfield 38, 3) := by decide +kernel
theorem d_Mo_feed_96 : decode b_Mo_feed 96 = .ok (.iload 7, 2) := by decide +kernel
theorem d_Mo_feed_98 : decode b_Mo_feed 98 = .ok (.bipush 24, 2) := by decide +kernel
theorem d_Mo_feed_100 : decode b_Mo_feed 100 = .ok (.bipush 8, 2) := by decide +kernel
theorem d_Mo_feed_102 : decode b_Mo_feed 102 = .ok (.iload 6, 2) := by decide +kernel
theorem d_Mo_feed_104 : decode b_Mo_feed 104 = .ok (.iconst 4, 1) := by decide +kernel
theorem d_Mo_feed_105 : decode b_Mo_feed 105 = .ok (.irem, 1) := by decide +kernel
theorem d_Mo_feed_106 : decode b_Mo_feed 106 = .ok (.imul, 1) := by decide +kernel
theorem d_Mo_feed_107 : decode b_Mo_feed 107 = .ok (.isub, 1) := by decide +kernel
theorem d_Mo_feed_108 : decode b_Mo_feed 108 = .ok (.ishr, 1) := by decide +kernel
theorem d_Mo_feed_109 : decode b_Mo_feed 109 = .ok (.i2b, 1) := by decide +kernel
theorem d_Mo_feed_110 : decode b_Mo_feed 110 = .ok (.bastore, 1) := by decide +kernel
theorem d_Mo_feed_111 : decode b_Mo_feed 111 = .ok (.aload_n 0, 1) := by decide +kernel
theorem d_Mo_feed_112 : decode b_Mo_feed 112 = .ok (.dup, 1) := by decide +kernel
theorem d_Mo_feed_113 : decode b_Mo_feed 113 = .ok (.getfield 38, 3) := by decide +kernel
theorem d_Mo_feed_116 : decode b_Mo_feed 116 = .ok (.iconst 1, 1) := by decide +kernel
theorem d_Mo_feed_117 : decode b_Mo_feed 117 = .ok (.iadd, 1) := by decide +kernel
theorem d_Mo_feed_118 : decode b_Mo_feed 118 = .ok (.putfield 38, 3) := by decide +kernel
theorem d_Mo_feed_121 : decode b_Mo_feed 121 = .ok (.iinc 6 1, 3) := by decide +kernel
theorem d_Mo_feed_124 : decode b_Mo_feed 124 = .ok (.goto (-91), 3) := by decide +kernel
theorem d_Mo_feed_127 : decode b_Mo_feed 127 = .ok (.return_, 1) := by decide +kernel
theorem q_Mo_feed : px_y y_Mo_feed 5 := by unfold px_y; decide +kernel
set_option maxHeartbeats 4000000 in
set_option maxRecDepth 100000 in
theorem c_mo_feed (l : Launch) (D : va_G) (cs : Nat → ClassId) (mo : Nat) (mr : Nat → Nat) (mf : Nat → Int32) (md : Nat → Nat → Int32) (hq : Nat → Nat) (qr : Nat → Nat → Nat) (QO : Nat → Option Nat) (QF : Nat → Nat → Int32) (QA : Nat → Nat → Nat → Int32) (PG : Nat → Pgs) (p0 p1 p2 p3 p4 : Int32)  (g0 : 0 ≤ (mf 2).toInt) (g1 : (mf 2).toInt ≤ 2048) (hpn : PrN QF) (hpg : PgA PG) : MetV l y_Mo_feed b_Mo_feed 8 D cs 0 0 (0) (0) [.ref mo, .int p0, .int p1, .int p2, .int p3, .int p4] [wd_Mo cs mo mr (fun _ => none) mf md (gMo PG hq), fm 13 (fPr cs hq qr QO QF QA), fm 8 (fPg cs PG)] (fun _ => True) (fun ps => ∃ (mf' : Nat → Int32) (md' : Nat → Nat → Int32), (ps = [wd_Mo cs mo mr (fun _ => none) mf' md' (gMo PG hq), fm 13 (fPr cs hq qr QO QF QA), fm 8 (fPg cs PG)]) ∧ ((mf' 3).toInt = (mf 3).toInt) ∧ ((mf' 10).toInt = (mf 10).toInt) ∧ (0 ≤ (mf' 2).toInt) ∧ ((mf' 2).toInt ≤ 2048) ∧ (((mf 2).toInt + 20 ≤ 2048 ∧ (mf' 0).toInt = 0 ∧ (mf' 2).toInt = (mf 2).toInt + 20) ∨ (2048 < (mf 2).toInt + 20 ∧ (mf' 0).toInt = 1 ∧ (mf' 2).toInt = (mf 2).toInt))) := by
  refine px_enter (by decide) (Nat.le_of_ble_eq_true rfl) ?_
  intro p e s m below meth c A ls hAe S hr hlk hnm hA hT hX hw hl
  replace hl : lv_has ls 8 [(0, .ref mo), (1, .int p0), (2, .int p1), (3, .int p2), (4, .int p3), (5, .int p4)] := hl
  have lp0 := Int32.le_toInt p0
  have up0 := Int32.toInt_lt p0
  have lp1 := Int32.le_toInt p1
  have up1 := Int32.toInt_lt p1
  have lp2 := Int32.le_toInt p2
  have up2 := Int32.toInt_lt p2
  have lp3 := Int32.le_toInt p3
  have up3 := Int32.toInt_lt p3
  have lp4 := Int32.le_toInt p4
  have up4 := Int32.toInt_lt p4
  have cst0 : (0 : Int32).toInt = 0 := rfl
  have cst1 : (1 : Int32).toInt = 1 := rfl
  have cst4 : (4 : Int32).toInt = 4 := rfl
  have cst8 : (8 : Int32).toInt = 8 := rfl
  have cst12 : (12 : Int32).toInt = 12 := rfl
  have cst16 : (16 : Int32).toInt = 16 := rfl
  have cst20 : (20 : Int32).toInt = 20 := rfl
  have cst24 : (24 : Int32).toInt = 24 := rfl
  have cst2048 : (2048 : Int32).toInt = 2048 := rfl
  have J33 : ∀ (n_33 : Nat) (mf_33 : Nat → Int32) (md_33 : Nat → Nat → Int32) (x33_6 : Int32) (H : Heap) (locs : List Loc) (ls : Array Slot), ((mf_33 3).toInt = (mf 3).toInt) → ((mf_33 10).toInt = (mf 10).toInt) → ((mf_33 2).toInt = (mf 2).toInt + x33_6.toInt) → ((mf 2).toInt + 20 ≤ 2048) → (0 ≤ x33_6.toInt) → (x33_6.toInt ≤ 20) → ((mf_33 0).toInt = 0) → 20 - x33_6.toInt < (n_33 : Int) → pw D A s.heap H locs [wd_Mo cs mo mr (fun _ => none) mf_33 md_33 (gMo PG hq), fm 13 (fPr cs hq qr QO QF QA), fm 8 (fPg cs PG)] → lv_has ls 8 [(0, .ref mo), (1, .int p0), (2, .int p1), (3, .int p2), (4, .int p3), (5, .int p4), (6, .int x33_6)] → W p l e { frames := 0, cells := 0, slots := 0, locals := 0 } s m [.ref mo, .int p0, .int p1, .int p2, .int p3, .int p4].toArray below meth c H locs 0 0 (MQ below (va_Qv (fun ps => ∃ (mf' : Nat → Int32) (md' : Nat → Nat → Int32), (ps = [wd_Mo cs mo mr (fun _ => none) mf' md' (gMo PG hq), fm 13 (fPr cs hq qr QO QF QA), fm 8 (fPg cs PG)]) ∧ ((mf' 3).toInt = (mf 3).toInt) ∧ ((mf' 10).toInt = (mf 10).toInt) ∧ (0 ≤ (mf' 2).toInt) ∧ ((mf' 2).toInt ≤ 2048) ∧ (((mf 2).toInt + 20 ≤ 2048 ∧ (mf' 0).toInt = 0 ∧ (mf' 2).toInt = (mf 2).toInt + 20) ∨ (2048 < (mf 2).toInt + 20 ∧ (mf' 0).toInt = 1 ∧ (mf' 2).toInt = (mf 2).toInt))) (pc_B D (va_A ([wd_Mo cs mo mr (fun _ => none) mf md (gMo PG hq), fm 13 (fPr cs hq qr QO QF QA), fm 8 (fPg cs PG)] : List va_W).flatten s.heap.size)) (va_A ([wd_Mo cs mo mr (fun _ => none) mf md (gMo PG hq), fm 13 (fPr cs hq qr QO QF QA), fm 8 (fPg cs PG)] : List va_W).flatten s.heap.size)) [.ref mo, .int p0, .int p1, .int p2, .int p3, .int p4].toArray s 0 0 A) (F0 m 33 ls []) := by
    intro  n_33
    induction n_33 with
    | zero =>
      intro mf_33 md_33 x33_6 H locs ls k33_0 k33_1 k33_2 k33_3 k33_4 k33_5 k33_6 hm hw hl
      have lx33_6 := Int32.le_toInt x33_6
      have ux33_6 := Int32.toInt_lt x33_6
      exact absurd hm (by omega)
    | succ n_33 ih33 =>
      intro mf_33 md_33 x33_6 H locs ls k33_0 k33_1 k33_2 k33_3 k33_4 k33_5 k33_6 hm hw hl
      have lx33_6 := Int32.le_toInt x33_6
      have ux33_6 := Int32.toInt_lt x33_6
      refine lv_iload S.x S.b d_Mo_feed_33 (lv_at hl 6 rfl) ?_
      refine lv_bipush (v := 20) S.x S.b d_Mo_feed_35 (by decide) ?_
      refine lv_icmp_ge (tgt := 127) S.x S.b d_Mo_feed_37 (by decide) (fun c1 => ?_) (fun c1 => ?_)
      · have nc1 : (20 : Int) ≤ x33_6.toInt := (i_le (x := 20) (y := x33_6)).mp c1
        exact px_vret S hr hlk hAe hw (Nat.le_of_ble_eq_true rfl) (Nat.le_of_ble_eq_true rfl) (⟨mf_33, md_33, rfl, (show (mf_33 3).toInt = (mf 3).toInt from by first | exact k33_0 | omega), (show (mf_33 10).toInt = (mf 10).toInt from by first | exact k33_1 | omega), (show 0 ≤ (mf_33 2).toInt from by first | exact oz_c8540bec21 k33_2 g0 nc1 | omega), (show (mf_33 2).toInt ≤ 2048 from by first | exact oz_dc3b43e308 k33_2 k33_3 k33_5 | omega), (show ((mf 2).toInt + 20 ≤ 2048 ∧ (mf_33 0).toInt = 0 ∧ (mf_33 2).toInt = (mf 2).toInt + 20) ∨ (2048 < (mf 2).toInt + 20 ∧ (mf_33 0).toInt = 1 ∧ (mf_33 2).toInt = (mf 2).toInt) from by first | with_reducible rfl | with_reducible assumption | omega)⟩) d_Mo_feed_127
      · have nc1 : ¬ (20 : Int) ≤ x33_6.toInt := mt (i_le (x := 20) (y := x33_6)).mpr c1
        refine lv_iload S.x S.b d_Mo_feed_40 (lv_at hl 6 rfl) ?_
        refine lv_iconst (v := 4) S.x S.b d_Mo_feed_42 (by decide) ?_
        refine lv_icmp_ge (tgt := 50) S.x S.b d_Mo_feed_43 (by decide) (fun c2 => ?_) (fun c2 => ?_)
        · have nc2 : (4 : Int) ≤ x33_6.toInt := (i_le (x := 4) (y := x33_6)).mp c2
          refine lv_iload S.x S.b d_Mo_feed_50 (lv_at hl 6 rfl) ?_
          refine lv_bipush (v := 8) S.x S.b d_Mo_feed_52 (by decide) ?_
          refine lv_icmp_ge (tgt := 61) S.x S.b d_Mo_feed_54 (by decide) (fun c3 => ?_) (fun c3 => ?_)
          · have nc3 : (8 : Int) ≤ x33_6.toInt := (i_le (x := 8) (y := x33_6)).mp c3
            refine lv_iload S.x S.b d_Mo_feed_61 (lv_at hl 6 rfl) ?_
            refine lv_bipush (v := 12) S.x S.b d_Mo_feed_63 (by decide) ?_
            refine lv_icmp_ge (tgt := 72) S.x S.b d_Mo_feed_65 (by decide) (fun c4 => ?_) (fun c4 => ?_)
            · have nc4 : (12 : Int) ≤ x33_6.toInt := (i_le (x := 12) (y := x33_6)).mp c4
              refine lv_iload S.x S.b d_Mo_feed_72 (lv_at hl 6 rfl) ?_
              refine lv_bipush (v := 16) S.x S.b d_Mo_feed_74 (by decide) ?_
              refine lv_icmp_ge (tgt := 84) S.x S.b d_Mo_feed_76 (by decide) (fun c5 => ?_) (fun c5 => ?_)
              · have nc5 : (16 : Int) ≤ x33_6.toInt := (i_le (x := 16) (y := x33_6)).mp c5
                refine lv_iload S.x S.b d_Mo_feed_84 (lv_at hl 5 rfl) ?_
                refine lv_istore (lv' := [(7, .int p4), (0, .ref mo), (1, .int p0), (2, .int p1), (3, .int p2), (4, .int p3), (5, .int p4), (6, .int x33_6)]) S.x S.b d_Mo_feed_86 hl (by decide) rfl (fun ls hl => ?_)
                refine lv_aload_n S.x S.b d_Mo_feed_88 rfl (lv_at hl 1 rfl) ?_
                refine px_get S k_Mo hT hw 0 0 1 (v := .ref (mr 1)) rfl rfl rfl (by decide) m11_79 d_Mo_feed_89 ?_
                refine lv_aload_n S.x S.b d_Mo_feed_92 rfl (lv_at hl 1 rfl) ?_
                refine px_get S k_Mo hT hw 0 0 2 (v := .int (mf_33 2)) rfl rfl rfl (by decide) m11_80 d_Mo_feed_93 ?_
                refine lv_iload S.x S.b d_Mo_feed_96 (lv_at hl 0 rfl) ?_
                refine lv_bipush (v := 24) S.x S.b d_Mo_feed_98 (by decide) ?_
                refine lv_bipush (v := 8) S.x S.b d_Mo_feed_100 (by decide) ?_
                refine lv_iload S.x S.b d_Mo_feed_102 (lv_at hl 7 rfl) ?_
                refine lv_iconst (v := 4) S.x S.b d_Mo_feed_104 (by decide) ?_
                refine lv_irem S.x S.b d_Mo_feed_105 (by decide) ?_
                refine lv_topi (fun z6 ez6 => ?_)
                have lz6 := Int32.le_toInt z6
                have uz6 := Int32.toInt_lt z6
                refine lv_imul S.x S.b d_Mo_feed_106 ?_
                refine lv_topi (fun z7 ez7 => ?_)
                have lz7 := Int32.le_toInt z7
                have uz7 := Int32.toInt_lt z7
                have tz7 : -2147483648 ≤ 8 * z6.toInt → 8 * z6.toInt < 2147483648 → z7.toInt = 8 * z6.toInt := by rw [ez7]; exact i_mulc 8 z6 (by decide)
                try replace tz7 : z7.toInt = 8 * z6.toInt := by omega
                refine lv_isub S.x S.b d_Mo_feed_107 ?_
                refine lv_topi (fun z8 ez8 => ?_)
                have tz8 : z8.toInt = ((24 : Int) - z7.toInt + 2147483648) % 4294967296 - 2147483648 := by rw [ez8]; exact i_sub 24 z7
                have lz8 := Int32.le_toInt z8
                have uz8 := Int32.toInt_lt z8
                try replace tz8 : z8.toInt = (24 : Int) - z7.toInt := by omega
                refine lv_ishr S.x S.b d_Mo_feed_108 ?_
                refine lv_topi (fun z9 ez9 => ?_)
                have lz9 := Int32.le_toInt z9
                have uz9 := Int32.toInt_lt z9
                refine lv_i2b S.x S.b d_Mo_feed_109 rfl ?_
                refine lv_topi (fun z10 ez10 => ?_)
                have lz10 := Int32.le_toInt z10
                have uz10 := Int32.toInt_lt z10
                refine px_bast S hT hw 0 1 (n := 2048) (f := (md_33 1)) (x := (mf_33 2)) (y := z10) rfl (ga_Mo_1 _ _ _ _ _ _ _) (vp_in_iff.mpr (by constructor <;> omega)) d_Mo_feed_110 (w' := wd_Mo cs mo mr (fun _ => none) mf_33 (va_up md_33 1 (upd (md_33 1) (mf_33 2).toNatClampNeg (vp_nar .byte z10))) (gMo PG hq)) (ps' := [wd_Mo cs mo mr (fun _ => none) mf_33 (va_up md_33 1 (upd (md_33 1) (mf_33 2).toNatClampNeg (vp_nar .byte z10))) (gMo PG hq), fm 13 (fPr cs hq qr QO QF QA), fm 8 (fPg cs PG)]) (sa_Mo_1 _ _ _ _ _ _ _ _) rfl (fun H locs hw => ?_)
                refine lv_aload_n S.x S.b d_Mo_feed_111 rfl (lv_at hl 1 rfl) ?_
                refine lv_dup S.x S.b d_Mo_feed_112 rfl ?_
                refine px_get S k_Mo hT hw 0 0 2 (v := .int (mf_33 2)) rfl rfl rfl (by decide) m11_80 d_Mo_feed_113 ?_
                refine lv_iconst (v := 1) S.x S.b d_Mo_feed_116 (by decide) ?_
                refine lv_iadd S.x S.b d_Mo_feed_117 ?_
                have lr11 := Int32.le_toInt (mf_33 2)
                have ur11 := Int32.toInt_lt (mf_33 2)
                refine lv_topi (fun z12 ez12 => ?_)
                have tz12 : z12.toInt = ((mf_33 2).toInt + (1 : Int) + 2147483648) % 4294967296 - 2147483648 := by rw [ez12]; exact i_add (mf_33 2) 1
                have lz12 := Int32.le_toInt z12
                have uz12 := Int32.toInt_lt z12
                try replace tz12 : z12.toInt = (mf_33 2).toInt + (1 : Int) := by omega
                refine px_put S k_Mo hT hw 0 0 2 rfl rfl (by decide) m11_80 rfl rfl rfl (Nat.le_of_ble_eq_true rfl) d_Mo_feed_118 (w' := wd_Mo cs mo mr (fun _ => none) (upd mf_33 2 z12) (va_up md_33 1 (upd (md_33 1) (mf_33 2).toNatClampNeg (vp_nar .byte z10))) (gMo PG hq)) (ps' := [wd_Mo cs mo mr (fun _ => none) (upd mf_33 2 z12) (va_up md_33 1 (upd (md_33 1) (mf_33 2).toNatClampNeg (vp_nar .byte z10))) (gMo PG hq), fm 13 (fPr cs hq qr QO QF QA), fm 8 (fPg cs PG)]) rfl rfl (fun H locs hw => ?_)
                obtain ⟨z13, ez13⟩ : ∃ y : Int32, y = x33_6 + 1 := ⟨_, rfl⟩
                have tz13 : z13.toInt = (x33_6.toInt + 1 + 2147483648) % 4294967296 - 2147483648 := by rw [ez13]; exact i_add x33_6 1
                have lz13 := Int32.le_toInt z13
                have uz13 := Int32.toInt_lt z13
                try replace tz13 : z13.toInt = x33_6.toInt + 1 := by omega
                refine lv_iinc (v := z13) (lv' := [(6, .int z13), (7, .int p4), (0, .ref mo), (1, .int p0), (2, .int p1), (3, .int p2), (4, .int p3), (5, .int p4)]) S.x S.b d_Mo_feed_121 hl (k := 7) rfl (by rw [ez13]; rfl) (by decide) rfl (fun ls hl => ?_)
                refine lv_goto (tgt := 33) S.x S.b d_Mo_feed_124 (by decide) ?_
                exact ih33 (upd mf_33 2 z12) (va_up md_33 1 (upd (md_33 1) (mf_33 2).toNatClampNeg (vp_nar .byte z10))) z13 _ _ ls (show (mf_33 3).toInt = (mf 3).toInt from by first | exact k33_0 | omega) (show (mf_33 10).toInt = (mf 10).toInt from by first | exact k33_1 | omega) (show z12.toInt = (mf 2).toInt + z13.toInt from by first | exact oz_c825822485 k33_2 tz12 tz13 | omega) (show (mf 2).toInt + 20 ≤ 2048 from by first | exact k33_3 | omega) (show 0 ≤ z13.toInt from by first | exact oz_3f0356654e tz13 nc5 | omega) (show z13.toInt ≤ 20 from by first | exact oz_e36a6178ce tz13 nc1 | omega) (show (mf_33 0).toInt = 0 from by first | exact k33_6 | omega) (show 20 - z13.toInt < (n_33 : Int) from by first | exact oz_ac4816bc14 hm tz13 | omega) hw (lv_sub hl [2, 3, 4, 5, 6, 7, 0] rfl)
              · have nc5 : ¬ (16 : Int) ≤ x33_6.toInt := mt (i_le (x := 16) (y := x33_6)).mpr c5
                refine lv_iload S.x S.b d_Mo_feed_79 (lv_at hl 4 rfl) ?_
                refine lv_goto (tgt := 86) S.x S.b d_Mo_feed_81 (by decide) ?_
                refine lv_istore (lv' := [(7, .int p3), (0, .ref mo), (1, .int p0), (2, .int p1), (3, .int p2), (4, .int p3), (5, .int p4), (6, .int x33_6)]) S.x S.b d_Mo_feed_86 hl (by decide) rfl (fun ls hl => ?_)
                refine lv_aload_n S.x S.b d_Mo_feed_88 rfl (lv_at hl 1 rfl) ?_
                refine px_get S k_Mo hT hw 0 0 1 (v := .ref (mr 1)) rfl rfl rfl (by decide) m11_79 d_Mo_feed_89 ?_
                refine lv_aload_n S.x S.b d_Mo_feed_92 rfl (lv_at hl 1 rfl) ?_
                refine px_get S k_Mo hT hw 0 0 2 (v := .int (mf_33 2)) rfl rfl rfl (by decide) m11_80 d_Mo_feed_93 ?_
                refine lv_iload S.x S.b d_Mo_feed_96 (lv_at hl 0 rfl) ?_
                refine lv_bipush (v := 24) S.x S.b d_Mo_feed_98 (by decide) ?_
                refine lv_bipush (v := 8) S.x S.b d_Mo_feed_100 (by decide) ?_
                refine lv_iload S.x S.b d_Mo_feed_102 (lv_at hl 7 rfl) ?_
                refine lv_iconst (v := 4) S.x S.b d_Mo_feed_104 (by decide) ?_
                refine lv_irem S.x S.b d_Mo_feed_105 (by decide) ?_
                refine lv_topi (fun z14 ez14 => ?_)
                have lz14 := Int32.le_toInt z14
                have uz14 := Int32.toInt_lt z14
                refine lv_imul S.x S.b d_Mo_feed_106 ?_
                refine lv_topi (fun z15 ez15 => ?_)
                have lz15 := Int32.le_toInt z15
                have uz15 := Int32.toInt_lt z15
                have tz15 : -2147483648 ≤ 8 * z14.toInt → 8 * z14.toInt < 2147483648 → z15.toInt = 8 * z14.toInt := by rw [ez15]; exact i_mulc 8 z14 (by decide)
                try replace tz15 : z15.toInt = 8 * z14.toInt := by omega
                refine lv_isub S.x S.b d_Mo_feed_107 ?_
                refine lv_topi (fun z16 ez16 => ?_)
                have tz16 : z16.toInt = ((24 : Int) - z15.toInt + 2147483648) % 4294967296 - 2147483648 := by rw [ez16]; exact i_sub 24 z15
                have lz16 := Int32.le_toInt z16
                have uz16 := Int32.toInt_lt z16
                try replace tz16 : z16.toInt = (24 : Int) - z15.toInt := by omega
                refine lv_ishr S.x S.b d_Mo_feed_108 ?_
                refine lv_topi (fun z17 ez17 => ?_)
                have lz17 := Int32.le_toInt z17
                have uz17 := Int32.toInt_lt z17
                refine lv_i2b S.x S.b d_Mo_feed_109 rfl ?_
                refine lv_topi (fun z18 ez18 => ?_)
                have lz18 := Int32.le_toInt z18
                have uz18 := Int32.toInt_lt z18
                refine px_bast S hT hw 0 1 (n := 2048) (f := (md_33 1)) (x := (mf_33 2)) (y := z18) rfl (ga_Mo_1 _ _ _ _ _ _ _) (vp_in_iff.mpr (by constructor <;> omega)) d_Mo_feed_110 (w' := wd_Mo cs mo mr (fun _ => none) mf_33 (va_up md_33 1 (upd (md_33 1) (mf_33 2).toNatClampNeg (vp_nar .byte z18))) (gMo PG hq)) (ps' := [wd_Mo cs mo mr (fun _ => none) mf_33 (va_up md_33 1 (upd (md_33 1) (mf_33 2).toNatClampNeg (vp_nar .byte z18))) (gMo PG hq), fm 13 (fPr cs hq qr QO QF QA), fm 8 (fPg cs PG)]) (sa_Mo_1 _ _ _ _ _ _ _ _) rfl (fun H locs hw => ?_)
                refine lv_aload_n S.x S.b d_Mo_feed_111 rfl (lv_at hl 1 rfl) ?_
                refine lv_dup S.x S.b d_Mo_feed_112 rfl ?_
                refine px_get S k_Mo hT hw 0 0 2 (v := .int (mf_33 2)) rfl rfl rfl (by decide) m11_80 d_Mo_feed_113 ?_
                refine lv_iconst (v := 1) S.x S.b d_Mo_feed_116 (by decide) ?_
                refine lv_iadd S.x S.b d_Mo_feed_117 ?_
                have lr19 := Int32.le_toInt (mf_33 2)
                have ur19 := Int32.toInt_lt (mf_33 2)
                refine lv_topi (fun z20 ez20 => ?_)
                have tz20 : z20.toInt = ((mf_33 2).toInt + (1 : Int) + 2147483648) % 4294967296 - 2147483648 := by rw [ez20]; exact i_add (mf_33 2) 1
                have lz20 := Int32.le_toInt z20
                have uz20 := Int32.toInt_lt z20
                try replace tz20 : z20.toInt = (mf_33 2).toInt + (1 : Int) := by omega
                refine px_put S k_Mo hT hw 0 0 2 rfl rfl (by decide) m11_80 rfl rfl rfl (Nat.le_of_ble_eq_true rfl) d_Mo_feed_118 (w' := wd_Mo cs mo mr (fun _ => none) (upd mf_33 2 z20) (va_up md_33 1 (upd (md_33 1) (mf_33 2).toNatClampNeg (vp_nar .byte z18))) (gMo PG hq)) (ps' := [wd_Mo cs mo mr (fun _ => none) (upd mf_33 2 z20) (va_up md_33 1 (upd (md_33 1) (mf_33 2).toNatClampNeg (vp_nar .byte z18))) (gMo PG hq), fm 13 (fPr cs hq qr QO QF QA), fm 8 (fPg cs PG)]) rfl rfl (fun H locs hw => ?_)
                obtain ⟨z21, ez21⟩ : ∃ y : Int32, y = x33_6 + 1 := ⟨_, rfl⟩
                have tz21 : z21.toInt = (x33_6.toInt + 1 + 2147483648) % 4294967296 - 2147483648 := by rw [ez21]; exact i_add x33_6 1
                have lz21 := Int32.le_toInt z21
                have uz21 := Int32.toInt_lt z21
                try replace tz21 : z21.toInt = x33_6.toInt + 1 := by omega
                refine lv_iinc (v := z21) (lv' := [(6, .int z21), (7, .int p3), (0, .ref mo), (1, .int p0), (2, .int p1), (3, .int p2), (4, .int p3), (5, .int p4)]) S.x S.b d_Mo_feed_121 hl (k := 7) rfl (by rw [ez21]; rfl) (by decide) rfl (fun ls hl => ?_)
                refine lv_goto (tgt := 33) S.x S.b d_Mo_feed_124 (by decide) ?_
                exact ih33 (upd mf_33 2 z20) (va_up md_33 1 (upd (md_33 1) (mf_33 2).toNatClampNeg (vp_nar .byte z18))) z21 _ _ ls (show (mf_33 3).toInt = (mf 3).toInt from by first | exact k33_0 | omega) (show (mf_33 10).toInt = (mf 10).toInt from by first | exact k33_1 | omega) (show z20.toInt = (mf 2).toInt + z21.toInt from by first | exact oz_c825822485 k33_2 tz20 tz21 | omega) (show (mf 2).toInt + 20 ≤ 2048 from by first | exact k33_3 | omega) (show 0 ≤ z21.toInt from by first | exact oz_f5be280463 tz21 nc4 | omega) (show z21.toInt ≤ 20 from by first | exact oz_d97b138c9b tz21 nc5 | omega) (show (mf_33 0).toInt = 0 from by first | exact k33_6 | omega) (show 20 - z21.toInt < (n_33 : Int) from by first | exact oz_ac4816bc14 hm tz21 | omega) hw (lv_sub hl [2, 3, 4, 5, 6, 7, 0] rfl)
            · have nc4 : ¬ (12 : Int) ≤ x33_6.toInt := mt (i_le (x := 12) (y := x33_6)).mpr c4
              refine lv_iload_n S.x S.b d_Mo_feed_68 rfl (lv_at hl 3 rfl) ?_
              refine lv_goto (tgt := 86) S.x S.b d_Mo_feed_69 (by decide) ?_
              refine lv_istore (lv' := [(7, .int p2), (0, .ref mo), (1, .int p0), (2, .int p1), (3, .int p2), (4, .int p3), (5, .int p4), (6, .int x33_6)]) S.x S.b d_Mo_feed_86 hl (by decide) rfl (fun ls hl => ?_)
              refine lv_aload_n S.x S.b d_Mo_feed_88 rfl (lv_at hl 1 rfl) ?_
              refine px_get S k_Mo hT hw 0 0 1 (v := .ref (mr 1)) rfl rfl rfl (by decide) m11_79 d_Mo_feed_89 ?_
              refine lv_aload_n S.x S.b d_Mo_feed_92 rfl (lv_at hl 1 rfl) ?_
              refine px_get S k_Mo hT hw 0 0 2 (v := .int (mf_33 2)) rfl rfl rfl (by decide) m11_80 d_Mo_feed_93 ?_
              refine lv_iload S.x S.b d_Mo_feed_96 (lv_at hl 0 rfl) ?_
              refine lv_bipush (v := 24) S.x S.b d_Mo_feed_98 (by decide) ?_
              refine lv_bipush (v := 8) S.x S.b d_Mo_feed_100 (by decide) ?_
              refine lv_iload S.x S.b d_Mo_feed_102 (lv_at hl 7 rfl) ?_
              refine lv_iconst (v := 4) S.x S.b d_Mo_feed_104 (by decide) ?_
              refine lv_irem S.x S.b d_Mo_feed_105 (by decide) ?_
              refine lv_topi (fun z22 ez22 => ?_)
              have lz22 := Int32.le_toInt z22
              have uz22 := Int32.toInt_lt z22
              refine lv_imul S.x S.b d_Mo_feed_106 ?_
              refine lv_topi (fun z23 ez23 => ?_)
              have lz23 := Int32.le_toInt z23
              have uz23 := Int32.toInt_lt z23
              have tz23 : -2147483648 ≤ 8 * z22.toInt → 8 * z22.toInt < 2147483648 → z23.toInt = 8 * z22.toInt := by rw [ez23]; exact i_mulc 8 z22 (by decide)
              try replace tz23 : z23.toInt = 8 * z22.toInt := by omega
              refine lv_isub S.x S.b d_Mo_feed_107 ?_
              refine lv_topi (fun z24 ez24 => ?_)
              have tz24 : z24.toInt = ((24 : Int) - z23.toInt + 2147483648) % 4294967296 - 2147483648 := by rw [ez24]; exact i_sub 24 z23
              have lz24 := Int32.le_toInt z24
              have uz24 := Int32.toInt_lt z24
              try replace tz24 : z24.toInt = (24 : Int) - z23.toInt := by omega
              refine lv_ishr S.x S.b d_Mo_feed_108 ?_
              refine lv_topi (fun z25 ez25 => ?_)
              have lz25 := Int32.le_toInt z25
              have uz25 := Int32.toInt_lt z25
              refine lv_i2b S.x S.b d_Mo_feed_109 rfl ?_
              refine lv_topi (fun z26 ez26 => ?_)
              have lz26 := Int32.le_toInt z26
              have uz26 := Int32.toInt_lt z26
              refine px_bast S hT hw 0 1 (n := 2048) (f := (md_33 1)) (x := (mf_33 2)) (y := z26) rfl (ga_Mo_1 _ _ _ _ _ _ _) (vp_in_iff.mpr (by constructor <;> omega)) d_Mo_feed_110 (w' := wd_Mo cs mo mr (fun _ => none) mf_33 (va_up md_33 1 (upd (md_33 1) (mf_33 2).toNatClampNeg (vp_nar .byte z26))) (gMo PG hq)) (ps' := [wd_Mo cs mo mr (fun _ => none) mf_33 (va_up md_33 1 (upd (md_33 1) (mf_33 2).toNatClampNeg (vp_nar .byte z26))) (gMo PG hq), fm 13 (fPr cs hq qr QO QF QA), fm 8 (fPg cs PG)]) (sa_Mo_1 _ _ _ _ _ _ _ _) rfl (fun H locs hw => ?_)
              refine lv_aload_n S.x S.b d_Mo_feed_111 rfl (lv_at hl 1 rfl) ?_
              refine lv_dup S.x S.b d_Mo_feed_112 rfl ?_
              refine px_get S k_Mo hT hw 0 0 2 (v := .int (mf_33 2)) rfl rfl rfl (by decide) m11_80 d_Mo_feed_113 ?_
              refine lv_iconst (v := 1) S.x S.b d_Mo_feed_116 (by decide) ?_
              refine lv_iadd S.x S.b d_Mo_feed_117 ?_
              have lr27 := Int32.le_toInt (mf_33 2)
              have ur27 := Int32.toInt_lt (mf_33 2)
              refine lv_topi (fun z28 ez28 => ?_)
              have tz28 : z28.toInt = ((mf_33 2).toInt + (1 : Int) + 2147483648) % 4294967296 - 2147483648 := by rw [ez28]; exact i_add (mf_33 2) 1
              have lz28 := Int32.le_toInt z28
              have uz28 := Int32.toInt_lt z28
              try replace tz28 : z28.toInt = (mf_33 2).toInt + (1 : Int) := by omega
              refine px_put S k_Mo hT hw 0 0 2 rfl rfl (by decide) m11_80 rfl rfl rfl (Nat.le_of_ble_eq_true rfl) d_Mo_feed_118 (w' := wd_Mo cs mo mr (fun _ => none) (upd mf_33 2 z28) (va_up md_33 1 (upd (md_33 1) (mf_33 2).toNatClampNeg (vp_nar .byte z26))) (gMo PG hq)) (ps' := [wd_Mo cs mo mr (fun _ => none) (upd mf_33 2 z28) (va_up md_33 1 (upd (md_33 1) (mf_33 2).toNatClampNeg (vp_nar .byte z26))) (gMo PG hq), fm 13 (fPr cs hq qr QO QF QA), fm 8 (fPg cs PG)]) rfl rfl (fun H locs hw => ?_)
              obtain ⟨z29, ez29⟩ : ∃ y : Int32, y = x33_6 + 1 := ⟨_, rfl⟩
              have tz29 : z29.toInt = (x33_6.toInt + 1 + 2147483648) % 4294967296 - 2147483648 := by rw [ez29]; exact i_add x33_6 1
              have lz29 := Int32.le_toInt z29
              have uz29 := Int32.toInt_lt z29
              try replace tz29 : z29.toInt = x33_6.toInt + 1 := by omega
              refine lv_iinc (v := z29) (lv' := [(6, .int z29), (7, .int p2), (0, .ref mo), (1, .int p0), (2, .int p1), (3, .int p2), (4, .int p3), (5, .int p4)]) S.x S.b d_Mo_feed_121 hl (k := 7) rfl (by rw [ez29]; rfl) (by decide) rfl (fun ls hl => ?_)
              refine lv_goto (tgt := 33) S.x S.b d_Mo_feed_124 (by decide) ?_
              exact ih33 (upd mf_33 2 z28) (va_up md_33 1 (upd (md_33 1) (mf_33 2).toNatClampNeg (vp_nar .byte z26))) z29 _ _ ls (show (mf_33 3).toInt = (mf 3).toInt from by first | exact k33_0 | omega) (show (mf_33 10).toInt = (mf 10).toInt from by first | exact k33_1 | omega) (show z28.toInt = (mf 2).toInt + z29.toInt from by first | exact oz_c825822485 k33_2 tz28 tz29 | omega) (show (mf 2).toInt + 20 ≤ 2048 from by first | exact k33_3 | omega) (show 0 ≤ z29.toInt from by first | exact oz_5caae207a3 tz29 nc3 | omega) (show z29.toInt ≤ 20 from by first | exact oz_9b6247bf60 tz29 nc4 | omega) (show (mf_33 0).toInt = 0 from by first | exact k33_6 | omega) (show 20 - z29.toInt < (n_33 : Int) from by first | exact oz_ac4816bc14 hm tz29 | omega) hw (lv_sub hl [2, 3, 4, 5, 6, 7, 0] rfl)
          · have nc3 : ¬ (8 : Int) ≤ x33_6.toInt := mt (i_le (x := 8) (y := x33_6)).mpr c3
            refine lv_iload_n S.x S.b d_Mo_feed_57 rfl (lv_at hl 2 rfl) ?_
            refine lv_goto (tgt := 86) S.x S.b d_Mo_feed_58 (by decide) ?_
            refine lv_istore (lv' := [(7, .int p1), (0, .ref mo), (1, .int p0), (2, .int p1), (3, .int p2), (4, .int p3), (5, .int p4), (6, .int x33_6)]) S.x S.b d_Mo_feed_86 hl (by decide) rfl (fun ls hl => ?_)
            refine lv_aload_n S.x S.b d_Mo_feed_88 rfl (lv_at hl 1 rfl) ?_
            refine px_get S k_Mo hT hw 0 0 1 (v := .ref (mr 1)) rfl rfl rfl (by decide) m11_79 d_Mo_feed_89 ?_
            refine lv_aload_n S.x S.b d_Mo_feed_92 rfl (lv_at hl 1 rfl) ?_
            refine px_get S k_Mo hT hw 0 0 2 (v := .int (mf_33 2)) rfl rfl rfl (by decide) m11_80 d_Mo_feed_93 ?_
            refine lv_iload S.x S.b d_Mo_feed_96 (lv_at hl 0 rfl) ?_
            refine lv_bipush (v := 24) S.x S.b d_Mo_feed_98 (by decide) ?_
            refine lv_bipush (v := 8) S.x S.b d_Mo_feed_100 (by decide) ?_
            refine lv_iload S.x S.b d_Mo_feed_102 (lv_at hl 7 rfl) ?_
            refine lv_iconst (v := 4) S.x S.b d_Mo_feed_104 (by decide) ?_
            refine lv_irem S.x S.b d_Mo_feed_105 (by decide) ?_
            refine lv_topi (fun z30 ez30 => ?_)
            have lz30 := Int32.le_toInt z30
            have uz30 := Int32.toInt_lt z30
            refine lv_imul S.x S.b d_Mo_feed_106 ?_
            refine lv_topi (fun z31 ez31 => ?_)
            have lz31 := Int32.le_toInt z31
            have uz31 := Int32.toInt_lt z31
            have tz31 : -2147483648 ≤ 8 * z30.toInt → 8 * z30.toInt < 2147483648 → z31.toInt = 8 * z30.toInt := by rw [ez31]; exact i_mulc 8 z30 (by decide)
            try replace tz31 : z31.toInt = 8 * z30.toInt := by omega
            refine lv_isub S.x S.b d_Mo_feed_107 ?_
            refine lv_topi (fun z32 ez32 => ?_)
            have tz32 : z32.toInt = ((24 : Int) - z31.toInt + 2147483648) % 4294967296 - 2147483648 := by rw [ez32]; exact i_sub 24 z31
            have lz32 := Int32.le_toInt z32
            have uz32 := Int32.toInt_lt z32
            try replace tz32 : z32.toInt = (24 : Int) - z31.toInt := by omega
            refine lv_ishr S.x S.b d_Mo_feed_108 ?_
            refine lv_topi (fun z33 ez33 => ?_)
            have lz33 := Int32.le_toInt z33
            have uz33 := Int32.toInt_lt z33
            refine lv_i2b S.x S.b d_Mo_feed_109 rfl ?_
            refine lv_topi (fun z34 ez34 => ?_)
            have lz34 := Int32.le_toInt z34
            have uz34 := Int32.toInt_lt z34
            refine px_bast S hT hw 0 1 (n := 2048) (f := (md_33 1)) (x := (mf_33 2)) (y := z34) rfl (ga_Mo_1 _ _ _ _ _ _ _) (vp_in_iff.mpr (by constructor <;> omega)) d_Mo_feed_110 (w' := wd_Mo cs mo mr (fun _ => none) mf_33 (va_up md_33 1 (upd (md_33 1) (mf_33 2).toNatClampNeg (vp_nar .byte z34))) (gMo PG hq)) (ps' := [wd_Mo cs mo mr (fun _ => none) mf_33 (va_up md_33 1 (upd (md_33 1) (mf_33 2).toNatClampNeg (vp_nar .byte z34))) (gMo PG hq), fm 13 (fPr cs hq qr QO QF QA), fm 8 (fPg cs PG)]) (sa_Mo_1 _ _ _ _ _ _ _ _) rfl (fun H locs hw => ?_)
            refine lv_aload_n S.x S.b d_Mo_feed_111 rfl (lv_at hl 1 rfl) ?_
            refine lv_dup S.x S.b d_Mo_feed_112 rfl ?_
            refine px_get S k_Mo hT hw 0 0 2 (v := .int (mf_33 2)) rfl rfl rfl (by decide) m11_80 d_Mo_feed_113 ?_
            refine lv_iconst (v := 1) S.x S.b d_Mo_feed_116 (by decide) ?_
            refine lv_iadd S.x S.b d_Mo_feed_117 ?_
            have lr35 := Int32.le_toInt (mf_33 2)
            have ur35 := Int32.toInt_lt (mf_33 2)
            refine lv_topi (fun z36 ez36 => ?_)
            have tz36 : z36.toInt = ((mf_33 2).toInt + (1 : Int) + 2147483648) % 4294967296 - 2147483648 := by rw [ez36]; exact i_add (mf_33 2) 1
            have lz36 := Int32.le_toInt z36
            have uz36 := Int32.toInt_lt z36
            try replace tz36 : z36.toInt = (mf_33 2).toInt + (1 : Int) := by omega
            refine px_put S k_Mo hT hw 0 0 2 rfl rfl (by decide) m11_80 rfl rfl rfl (Nat.le_of_ble_eq_true rfl) d_Mo_feed_118 (w' := wd_Mo cs mo mr (fun _ => none) (upd mf_33 2 z36) (va_up md_33 1 (upd (md_33 1) (mf_33 2).toNatClampNeg (vp_nar .byte z34))) (gMo PG hq)) (ps' := [wd_Mo cs mo mr (fun _ => none) (upd mf_33 2 z36) (va_up md_33 1 (upd (md_33 1) (mf_33 2).toNatClampNeg (vp_nar .byte z34))) (gMo PG hq), fm 13 (fPr cs hq qr QO QF QA), fm 8 (fPg cs PG)]) rfl rfl (fun H locs hw => ?_)
            obtain ⟨z37, ez37⟩ : ∃ y : Int32, y = x33_6 + 1 := ⟨_, rfl⟩
            have tz37 : z37.toInt = (x33_6.toInt + 1 + 2147483648) % 4294967296 - 2147483648 := by rw [ez37]; exact i_add x33_6 1
            have lz37 := Int32.le_toInt z37
            have uz37 := Int32.toInt_lt z37
            try replace tz37 : z37.toInt = x33_6.toInt + 1 := by omega
            refine lv_iinc (v := z37) (lv' := [(6, .int z37), (7, .int p1), (0, .ref mo), (1, .int p0), (2, .int p1), (3, .int p2), (4, .int p3), (5, .int p4)]) S.x S.b d_Mo_feed_121 hl (k := 7) rfl (by rw [ez37]; rfl) (by decide) rfl (fun ls hl => ?_)
            refine lv_goto (tgt := 33) S.x S.b d_Mo_feed_124 (by decide) ?_
            exact ih33 (upd mf_33 2 z36) (va_up md_33 1 (upd (md_33 1) (mf_33 2).toNatClampNeg (vp_nar .byte z34))) z37 _ _ ls (show (mf_33 3).toInt = (mf 3).toInt from by first | exact k33_0 | omega) (show (mf_33 10).toInt = (mf 10).toInt from by first | exact k33_1 | omega) (show z36.toInt = (mf 2).toInt + z37.toInt from by first | exact oz_c825822485 k33_2 tz36 tz37 | omega) (show (mf 2).toInt + 20 ≤ 2048 from by first | exact k33_3 | omega) (show 0 ≤ z37.toInt from by first | exact oz_98bba6c895 tz37 nc2 | omega) (show z37.toInt ≤ 20 from by first | exact oz_da72bd3676 tz37 nc3 | omega) (show (mf_33 0).toInt = 0 from by first | exact k33_6 | omega) (show 20 - z37.toInt < (n_33 : Int) from by first | exact oz_ac4816bc14 hm tz37 | omega) hw (lv_sub hl [2, 3, 4, 5, 6, 7, 0] rfl)
        · have nc2 : ¬ (4 : Int) ≤ x33_6.toInt := mt (i_le (x := 4) (y := x33_6)).mpr c2
          refine lv_iload_n S.x S.b d_Mo_feed_46 rfl (lv_at hl 1 rfl) ?_
          refine lv_goto (tgt := 86) S.x S.b d_Mo_feed_47 (by decide) ?_
          refine lv_istore (lv' := [(7, .int p0), (0, .ref mo), (1, .int p0), (2, .int p1), (3, .int p2), (4, .int p3), (5, .int p4), (6, .int x33_6)]) S.x S.b d_Mo_feed_86 hl (by decide) rfl (fun ls hl => ?_)
          refine lv_aload_n S.x S.b d_Mo_feed_88 rfl (lv_at hl 1 rfl) ?_
          refine px_get S k_Mo hT hw 0 0 1 (v := .ref (mr 1)) rfl rfl rfl (by decide) m11_79 d_Mo_feed_89 ?_
          refine lv_aload_n S.x S.b d_Mo_feed_92 rfl (lv_at hl 1 rfl) ?_
          refine px_get S k_Mo hT hw 0 0 2 (v := .int (mf_33 2)) rfl rfl rfl (by decide) m11_80 d_Mo_feed_93 ?_
          refine lv_iload S.x S.b d_Mo_feed_96 (lv_at hl 0 rfl) ?_
          refine lv_bipush (v := 24) S.x S.b d_Mo_feed_98 (by decide) ?_
          refine lv_bipush (v := 8) S.x S.b d_Mo_feed_100 (by decide) ?_
          refine lv_iload S.x S.b d_Mo_feed_102 (lv_at hl 7 rfl) ?_
          refine lv_iconst (v := 4) S.x S.b d_Mo_feed_104 (by decide) ?_
          refine lv_irem S.x S.b d_Mo_feed_105 (by decide) ?_
          refine lv_topi (fun z38 ez38 => ?_)
          have lz38 := Int32.le_toInt z38
          have uz38 := Int32.toInt_lt z38
          refine lv_imul S.x S.b d_Mo_feed_106 ?_
          refine lv_topi (fun z39 ez39 => ?_)
          have lz39 := Int32.le_toInt z39
          have uz39 := Int32.toInt_lt z39
          have tz39 : -2147483648 ≤ 8 * z38.toInt → 8 * z38.toInt < 2147483648 → z39.toInt = 8 * z38.toInt := by rw [ez39]; exact i_mulc 8 z38 (by decide)
          try replace tz39 : z39.toInt = 8 * z38.toInt := by omega
          refine lv_isub S.x S.b d_Mo_feed_107 ?_
          refine lv_topi (fun z40 ez40 => ?_)
          have tz40 : z40.toInt = ((24 : Int) - z39.toInt + 2147483648) % 4294967296 - 2147483648 := by rw [ez40]; exact i_sub 24 z39
          have lz40 := Int32.le_toInt z40
          have uz40 := Int32.toInt_lt z40
          try replace tz40 : z40.toInt = (24 : Int) - z39.toInt := by omega
          refine lv_ishr S.x S.b d_Mo_feed_108 ?_
          refine lv_topi (fun z41 ez41 => ?_)
          have lz41 := Int32.le_toInt z41
          have uz41 := Int32.toInt_lt z41
          refine lv_i2b S.x S.b d_Mo_feed_109 rfl ?_
          refine lv_topi (fun z42 ez42 => ?_)
          have lz42 := Int32.le_toInt z42
          have uz42 := Int32.toInt_lt z42
          refine px_bast S hT hw 0 1 (n := 2048) (f := (md_33 1)) (x := (mf_33 2)) (y := z42) rfl (ga_Mo_1 _ _ _ _ _ _ _) (vp_in_iff.mpr (by constructor <;> omega)) d_Mo_feed_110 (w' := wd_Mo cs mo mr (fun _ => none) mf_33 (va_up md_33 1 (upd (md_33 1) (mf_33 2).toNatClampNeg (vp_nar .byte z42))) (gMo PG hq)) (ps' := [wd_Mo cs mo mr (fun _ => none) mf_33 (va_up md_33 1 (upd (md_33 1) (mf_33 2).toNatClampNeg (vp_nar .byte z42))) (gMo PG hq), fm 13 (fPr cs hq qr QO QF QA), fm 8 (fPg cs PG)]) (sa_Mo_1 _ _ _ _ _ _ _ _) rfl (fun H locs hw => ?_)
          refine lv_aload_n S.x S.b d_Mo_feed_111 rfl (lv_at hl 1 rfl) ?_
          refine lv_dup S.x S.b d_Mo_feed_112 rfl ?_
          refine px_get S k_Mo hT hw 0 0 2 (v := .int (mf_33 2)) rfl rfl rfl (by decide) m11_80 d_Mo_feed_113 ?_
          refine lv_iconst (v := 1) S.x S.b d_Mo_feed_116 (by decide) ?_
          refine lv_iadd S.x S.b d_Mo_feed_117 ?_
          have lr43 := Int32.le_toInt (mf_33 2)
          have ur43 := Int32.toInt_lt (mf_33 2)
          refine lv_topi (fun z44 ez44 => ?_)
          have tz44 : z44.toInt = ((mf_33 2).toInt + (1 : Int) + 2147483648) % 4294967296 - 2147483648 := by rw [ez44]; exact i_add (mf_33 2) 1
          have lz44 := Int32.le_toInt z44
          have uz44 := Int32.toInt_lt z44
          try replace tz44 : z44.toInt = (mf_33 2).toInt + (1 : Int) := by omega
          refine px_put S k_Mo hT hw 0 0 2 rfl rfl (by decide) m11_80 rfl rfl rfl (Nat.le_of_ble_eq_true rfl) d_Mo_feed_118 (w' := wd_Mo cs mo mr (fun _ => none) (upd mf_33 2 z44) (va_up md_33 1 (upd (md_33 1) (mf_33 2).toNatClampNeg (vp_nar .byte z42))) (gMo PG hq)) (ps' := [wd_Mo cs mo mr (fun _ => none) (upd mf_33 2 z44) (va_up md_33 1 (upd (md_33 1) (mf_33 2).toNatClampNeg (vp_nar .byte z42))) (gMo PG hq), fm 13 (fPr cs hq qr QO QF QA), fm 8 (fPg cs PG)]) rfl rfl (fun H locs hw => ?_)
          obtain ⟨z45, ez45⟩ : ∃ y : Int32, y = x33_6 + 1 := ⟨_, rfl⟩
          have tz45 : z45.toInt = (x33_6.toInt + 1 + 2147483648) % 4294967296 - 2147483648 := by rw [ez45]; exact i_add x33_6 1
          have lz45 := Int32.le_toInt z45
          have uz45 := Int32.toInt_lt z45
          try replace tz45 : z45.toInt = x33_6.toInt + 1 := by omega
          refine lv_iinc (v := z45) (lv' := [(6, .int z45), (7, .int p0), (0, .ref mo), (1, .int p0), (2, .int p1), (3, .int p2), (4, .int p3), (5, .int p4)]) S.x S.b d_Mo_feed_121 hl (k := 7) rfl (by rw [ez45]; rfl) (by decide) rfl (fun ls hl => ?_)
          refine lv_goto (tgt := 33) S.x S.b d_Mo_feed_124 (by decide) ?_
          exact ih33 (upd mf_33 2 z44) (va_up md_33 1 (upd (md_33 1) (mf_33 2).toNatClampNeg (vp_nar .byte z42))) z45 _ _ ls (show (mf_33 3).toInt = (mf 3).toInt from by first | exact k33_0 | omega) (show (mf_33 10).toInt = (mf 10).toInt from by first | exact k33_1 | omega) (show z44.toInt = (mf 2).toInt + z45.toInt from by first | exact oz_c825822485 k33_2 tz44 tz45 | omega) (show (mf 2).toInt + 20 ≤ 2048 from by first | exact k33_3 | omega) (show 0 ≤ z45.toInt from by first | exact oz_ae613611c0 tz45 k33_4 | omega) (show z45.toInt ≤ 20 from by first | exact oz_2e13a9180d tz45 nc2 | omega) (show (mf_33 0).toInt = 0 from by first | exact k33_6 | omega) (show 20 - z45.toInt < (n_33 : Int) from by first | exact oz_ac4816bc14 hm tz45 | omega) hw (lv_sub hl [2, 3, 4, 5, 6, 7, 0] rfl)
  refine lv_aload_n S.x S.b d_Mo_feed_0 rfl (lv_at hl 0 rfl) ?_
  refine lv_aload_n S.x S.b d_Mo_feed_1 rfl (lv_at hl 0 rfl) ?_
  refine px_get S k_Mo hT hw 0 0 2 (v := .int (mf 2)) rfl rfl rfl (by decide) m11_80 d_Mo_feed_2 ?_
  refine lv_bipush (v := 20) S.x S.b d_Mo_feed_5 (by decide) ?_
  refine lv_iadd S.x S.b d_Mo_feed_7 ?_
  have lr46 := Int32.le_toInt (mf 2)
  have ur46 := Int32.toInt_lt (mf 2)
  refine lv_topi (fun z47 ez47 => ?_)
  have tz47 : z47.toInt = ((mf 2).toInt + (20 : Int) + 2147483648) % 4294967296 - 2147483648 := by rw [ez47]; exact i_add (mf 2) 20
  have lz47 := Int32.le_toInt z47
  have uz47 := Int32.toInt_lt z47
  try replace tz47 : z47.toInt = (mf 2).toInt + (20 : Int) := by omega
  refine lv_sipush (v := 2048) S.x S.b d_Mo_feed_8 (by decide) ?_
  refine lv_icmp_le (tgt := 18) S.x S.b d_Mo_feed_11 (by decide) (fun c48 => ?_) (fun c48 => ?_)
  · have nc48 : z47.toInt ≤ (2048 : Int) := (i_le (x := z47) (y := 2048)).mp c48
    refine lv_iconst (v := 0) S.x S.b d_Mo_feed_18 (by decide) ?_
    refine px_put S k_Mo hT hw 0 0 0 rfl rfl (by decide) m11_78 rfl rfl rfl (Nat.le_of_ble_eq_true rfl) d_Mo_feed_19 (w' := wd_Mo cs mo mr (fun _ => none) (upd mf 0 0) md (gMo PG hq)) (ps' := [wd_Mo cs mo mr (fun _ => none) (upd mf 0 0) md (gMo PG hq), fm 13 (fPr cs hq qr QO QF QA), fm 8 (fPg cs PG)]) rfl rfl (fun H locs hw => ?_)
    refine lv_aload_n S.x S.b d_Mo_feed_22 rfl (lv_at hl 0 rfl) ?_
    refine px_get S k_Mo hT hw 0 0 0 (v := .int 0) rfl rfl rfl (by decide) m11_78 d_Mo_feed_23 ?_
    refine lv_if_le (tgt := 30) S.x S.b d_Mo_feed_26 (by decide) (fun c49 => ?_) (fun c49 => ?_)
    ·
      refine lv_iconst (v := 0) S.x S.b d_Mo_feed_30 (by decide) ?_
      refine lv_istore (lv' := [(6, .int 0), (0, .ref mo), (1, .int p0), (2, .int p1), (3, .int p2), (4, .int p3), (5, .int p4)]) S.x S.b d_Mo_feed_31 hl (by decide) rfl (fun ls hl => ?_)
      exact J33 ((20 - (0 : Int)).toNat + 1) (upd mf 0 0) md (0 : Int32) _ _ ls (show (mf 3).toInt = (mf 3).toInt from rfl) (show (mf 10).toInt = (mf 10).toInt from rfl) (show (mf 2).toInt = (mf 2).toInt + (0 : Int) from by first | exact oz_efca365a44 | omega) (show (mf 2).toInt + 20 ≤ 2048 from by first | exact oz_d0b413ca20 tz47 nc48 | omega) (show 0 ≤ (0 : Int) from by first | decide | omega) (show (0 : Int) ≤ 20 from by first | decide | omega) (show (0 : Int) = 0 from by first | decide | omega) (show 20 - (0 : Int) < ((((20 - (0 : Int)).toNat + 1 : Nat) : Int) : Int) from by first | exact oz_natlt | omega) hw (lv_sub hl [1, 2, 3, 4, 5, 6, 0] rfl)
    · exact absurd c49 (by decide)
  · have nc48 : ¬ z47.toInt ≤ (2048 : Int) := mt (i_le (x := z47) (y := 2048)).mpr c48
    refine lv_iconst (v := 1) S.x S.b d_Mo_feed_14 (by decide) ?_
    refine lv_goto (tgt := 19) S.x S.b d_Mo_feed_15 (by decide) ?_
    refine px_put S k_Mo hT hw 0 0 0 rfl rfl (by decide) m11_78 rfl rfl rfl (Nat.le_of_ble_eq_true rfl) d_Mo_feed_19 (w' := wd_Mo cs mo mr (fun _ => none) (upd mf 0 1) md (gMo PG hq)) (ps' := [wd_Mo cs mo mr (fun _ => none) (upd mf 0 1) md (gMo PG hq), fm 13 (fPr cs hq qr QO QF QA), fm 8 (fPg cs PG)]) rfl rfl (fun H locs hw => ?_)
    refine lv_aload_n S.x S.b d_Mo_feed_22 rfl (lv_at hl 0 rfl) ?_
    refine px_get S k_Mo hT hw 0 0 0 (v := .int 1) rfl rfl rfl (by decide) m11_78 d_Mo_feed_23 ?_
    refine lv_if_le (tgt := 30) S.x S.b d_Mo_feed_26 (by decide) (fun c50 => ?_) (fun c50 => ?_)
    · exact absurd c50 (by decide)
    ·
      exact px_vret S hr hlk hAe hw (Nat.le_of_ble_eq_true rfl) (Nat.le_of_ble_eq_true rfl) (⟨(upd mf 0 1), md, rfl, (show (mf 3).toInt = (mf 3).toInt from rfl), (show (mf 10).toInt = (mf 10).toInt from rfl), (show 0 ≤ (mf 2).toInt from by first | exact g0 | omega), (show (mf 2).toInt ≤ 2048 from by first | exact g1 | omega), (show ((mf 2).toInt + 20 ≤ 2048 ∧ (1 : Int) = 0 ∧ (mf 2).toInt = (mf 2).toInt + 20) ∨ (2048 < (mf 2).toInt + 20 ∧ (1 : Int) = 1 ∧ (mf 2).toInt = (mf 2).toInt) from by first | with_reducible rfl | with_reducible assumption | omega)⟩) d_Mo_feed_29
abbrev b_Mo_end : ByteArray := prog_14_method_4_code
def y_Mo_end : MethodName := ⟨"HomeSystemModel", "end", "(I)V"⟩
theorem d_Mo_end_0 : decode b_Mo_end 0 = .ok (.aload_n 0, 1) := by decide +kernel
theorem d_Mo_end_1 : decode b_Mo_end 1 = .ok (.iload_n 1, 1) := by decide +kernel
theorem d_Mo_end_2 : decode b_Mo_end 2 = .ok (.ifCond .lt 11, 3) := by decide +kernel
theorem d_Mo_end_5 : decode b_Mo_end 5 = .ok (.iload_n 1, 1) := by decide +kernel
theorem d_Mo_end_6 : decode b_Mo_end 6 = .ok (.aload_n 0, 1) := by decide +kernel
theorem d_Mo_end_7 : decode b_Mo_end 7 = .ok (.getfield 38, 3) := by decide +kernel
theorem d_Mo_end_10 : decode b_Mo_end 10 = .ok (.if_icmp .le 7, 3) := by decide +kernel
theorem d_Mo_end_13 : decode b_Mo_end 13 = .ok (.iconst 1, 1) := by decide +kernel
theorem d_Mo_end_14 : decode b_Mo_end 14 = .ok (.goto 4, 3) := by decide +kernel
theorem d_Mo_end_17 : decode b_Mo_end 17 = .ok (.iconst 0, 1) := by decide +kernel
theorem d_Mo_end_18 : decode b_Mo_end 18 = .ok (.putfield 35, 3) := by decide +kernel
theorem d_Mo_end_21 : decode b_Mo_end 21 = .ok (.aload_n 0, 1) := by decide +kernel
theorem d_Mo_end_22 : decode b_Mo_end 22 = .ok (.aload_n 0, 1) := by decide +kernel
theorem d_Mo_end_23 : decode b_Mo_end 23 = .ok (.getfield 35, 3) := by decide +kernel
theorem d_Mo_end_26 : decode b_Mo_end 26 = .ok (.ifCond .le 10, 3) := by decide +kernel
theorem d_Mo_end_29 : decode b_Mo_end 29 = .ok (.aload_n 0, 1) := by decide +kernel
theorem d_Mo_end_30 : decode b_Mo_end 30 = .ok (.getfield 38, 3) := by decide +kernel
theorem d_Mo_end_33 : decode b_Mo_end 33 = .ok (.goto 4, 3) := by decide +kernel
theorem d_Mo_end_36 : decode b_Mo_end 36 = .ok (.iload_n 1, 1) := by decide +kernel
theorem d_Mo_end_37 : decode b_Mo_end 37 = .ok (.putfield 38, 3) := by decide +kernel
theorem d_Mo_end_40 : decode b_Mo_end 40 = .ok (.return_, 1) := by decide +kernel
theorem q_Mo_end : px_y y_Mo_end 1 := by unfold px_y; decide +kernel
set_option maxHeartbeats 4000000 in
set_option maxRecDepth 100000 in
theorem c_mo_end (l : Launch) (D : va_G) (cs : Nat → ClassId) (mo : Nat) (mr : Nat → Nat) (md : Nat → Nat → Int32) (mf : Nat → Int32) (hq : Nat → Nat) (qr : Nat → Nat → Nat) (QO : Nat → Option Nat) (QF : Nat → Nat → Int32) (QA : Nat → Nat → Nat → Int32) (PG : Nat → Pgs) (p0 : Int32)  (g0 : 0 ≤ (mf 2).toInt) (g1 : (mf 2).toInt ≤ 2048) (hpn : PrN QF) (hpg : PgA PG) : MetV l y_Mo_end b_Mo_end 2 D cs 0 0 (0) (0) [.ref mo, .int p0] [wd_Mo cs mo mr (fun _ => none) mf md (gMo PG hq), fm 13 (fPr cs hq qr QO QF QA), fm 8 (fPg cs PG)] (fun _ => True) (fun ps => ∃ (mf' : Nat → Int32), (ps = [wd_Mo cs mo mr (fun _ => none) mf' md (gMo PG hq), fm 13 (fPr cs hq qr QO QF QA), fm 8 (fPg cs PG)]) ∧ ((mf' 3).toInt = (mf 3).toInt) ∧ ((mf' 10).toInt = (mf 10).toInt) ∧ (0 ≤ (mf' 2).toInt) ∧ ((mf' 2).toInt ≤ 2048) ∧ (((mf' 0).toInt = 0 ∧ 0 ≤ p0.toInt ∧ p0.toInt ≤ (mf 2).toInt ∧ (mf' 2).toInt = p0.toInt) ∨ ((mf' 0).toInt = 1 ∧ (p0.toInt < 0 ∨ (mf 2).toInt < p0.toInt) ∧ (mf' 2).toInt = (mf 2).toInt))) := by
  refine px_enter (by decide) (Nat.le_of_ble_eq_true rfl) ?_
  intro p e s m below meth c A ls hAe S hr hlk hnm hA hT hX hw hl
  replace hl : lv_has ls 2 [(0, .ref mo), (1, .int p0)] := hl
  have lp0 := Int32.le_toInt p0
  have up0 := Int32.toInt_lt p0
  have cst0 : (0 : Int32).toInt = 0 := rfl
  have cst1 : (1 : Int32).toInt = 1 := rfl
  refine lv_aload_n S.x S.b d_Mo_end_0 rfl (lv_at hl 0 rfl) ?_
  refine lv_iload_n S.x S.b d_Mo_end_1 rfl (lv_at hl 1 rfl) ?_
  refine lv_if_lt (tgt := 13) S.x S.b d_Mo_end_2 (by decide) (fun c1 => ?_) (fun c1 => ?_)
  · have nc1 : p0.toInt < (0 : Int) := (i_lt (x := p0) (y := 0)).mp c1
    refine lv_iconst (v := 1) S.x S.b d_Mo_end_13 (by decide) ?_
    refine lv_goto (tgt := 18) S.x S.b d_Mo_end_14 (by decide) ?_
    refine px_put S k_Mo hT hw 0 0 0 rfl rfl (by decide) m11_78 rfl rfl rfl (Nat.le_of_ble_eq_true rfl) d_Mo_end_18 (w' := wd_Mo cs mo mr (fun _ => none) (upd mf 0 1) md (gMo PG hq)) (ps' := [wd_Mo cs mo mr (fun _ => none) (upd mf 0 1) md (gMo PG hq), fm 13 (fPr cs hq qr QO QF QA), fm 8 (fPg cs PG)]) rfl rfl (fun H locs hw => ?_)
    refine lv_aload_n S.x S.b d_Mo_end_21 rfl (lv_at hl 0 rfl) ?_
    refine lv_aload_n S.x S.b d_Mo_end_22 rfl (lv_at hl 0 rfl) ?_
    refine px_get S k_Mo hT hw 0 0 0 (v := .int 1) rfl rfl rfl (by decide) m11_78 d_Mo_end_23 ?_
    refine lv_if_le (tgt := 36) S.x S.b d_Mo_end_26 (by decide) (fun c2 => ?_) (fun c2 => ?_)
    · exact absurd c2 (by decide)
    ·
      refine lv_aload_n S.x S.b d_Mo_end_29 rfl (lv_at hl 0 rfl) ?_
      refine px_get S k_Mo hT hw 0 0 2 (v := .int (mf 2)) rfl rfl rfl (by decide) m11_80 d_Mo_end_30 ?_
      refine lv_goto (tgt := 37) S.x S.b d_Mo_end_33 (by decide) ?_
      refine px_put S k_Mo hT hw 0 0 2 rfl rfl (by decide) m11_80 rfl rfl rfl (Nat.le_of_ble_eq_true rfl) d_Mo_end_37 (w' := wd_Mo cs mo mr (fun _ => none) (upd (upd mf 0 1) 2 (mf 2)) md (gMo PG hq)) (ps' := [wd_Mo cs mo mr (fun _ => none) (upd (upd mf 0 1) 2 (mf 2)) md (gMo PG hq), fm 13 (fPr cs hq qr QO QF QA), fm 8 (fPg cs PG)]) rfl rfl (fun H locs hw => ?_)
      exact px_vret S hr hlk hAe hw (Nat.le_of_ble_eq_true rfl) (Nat.le_of_ble_eq_true rfl) (⟨(upd (upd mf 0 1) 2 (mf 2)), rfl, (show (mf 3).toInt = (mf 3).toInt from rfl), (show (mf 10).toInt = (mf 10).toInt from rfl), (show 0 ≤ (mf 2).toInt from by first | exact g0 | omega), (show (mf 2).toInt ≤ 2048 from by first | exact g1 | omega), (show ((1 : Int) = 0 ∧ 0 ≤ p0.toInt ∧ p0.toInt ≤ (mf 2).toInt ∧ (mf 2).toInt = p0.toInt) ∨ ((1 : Int) = 1 ∧ (p0.toInt < 0 ∨ (mf 2).toInt < p0.toInt) ∧ (mf 2).toInt = (mf 2).toInt) from by omega)⟩) d_Mo_end_40
  · have nc1 : ¬ p0.toInt < (0 : Int) := mt (i_lt (x := p0) (y := 0)).mpr c1
    refine lv_iload_n S.x S.b d_Mo_end_5 rfl (lv_at hl 1 rfl) ?_
    refine lv_aload_n S.x S.b d_Mo_end_6 rfl (lv_at hl 0 rfl) ?_
    refine px_get S k_Mo hT hw 0 0 2 (v := .int (mf 2)) rfl rfl rfl (by decide) m11_80 d_Mo_end_7 ?_
    refine lv_icmp_le (tgt := 17) S.x S.b d_Mo_end_10 (by decide) (fun c3 => ?_) (fun c3 => ?_)
    · have nc3 : p0.toInt ≤ (mf 2).toInt := (i_le (x := p0) (y := (mf 2))).mp c3
      refine lv_iconst (v := 0) S.x S.b d_Mo_end_17 (by decide) ?_
      refine px_put S k_Mo hT hw 0 0 0 rfl rfl (by decide) m11_78 rfl rfl rfl (Nat.le_of_ble_eq_true rfl) d_Mo_end_18 (w' := wd_Mo cs mo mr (fun _ => none) (upd mf 0 0) md (gMo PG hq)) (ps' := [wd_Mo cs mo mr (fun _ => none) (upd mf 0 0) md (gMo PG hq), fm 13 (fPr cs hq qr QO QF QA), fm 8 (fPg cs PG)]) rfl rfl (fun H locs hw => ?_)
      refine lv_aload_n S.x S.b d_Mo_end_21 rfl (lv_at hl 0 rfl) ?_
      refine lv_aload_n S.x S.b d_Mo_end_22 rfl (lv_at hl 0 rfl) ?_
      refine px_get S k_Mo hT hw 0 0 0 (v := .int 0) rfl rfl rfl (by decide) m11_78 d_Mo_end_23 ?_
      refine lv_if_le (tgt := 36) S.x S.b d_Mo_end_26 (by decide) (fun c4 => ?_) (fun c4 => ?_)
      ·
        refine lv_iload_n S.x S.b d_Mo_end_36 rfl (lv_at hl 1 rfl) ?_
        refine px_put S k_Mo hT hw 0 0 2 rfl rfl (by decide) m11_80 rfl rfl rfl (Nat.le_of_ble_eq_true rfl) d_Mo_end_37 (w' := wd_Mo cs mo mr (fun _ => none) (upd (upd mf 0 0) 2 p0) md (gMo PG hq)) (ps' := [wd_Mo cs mo mr (fun _ => none) (upd (upd mf 0 0) 2 p0) md (gMo PG hq), fm 13 (fPr cs hq qr QO QF QA), fm 8 (fPg cs PG)]) rfl rfl (fun H locs hw => ?_)
        exact px_vret S hr hlk hAe hw (Nat.le_of_ble_eq_true rfl) (Nat.le_of_ble_eq_true rfl) (⟨(upd (upd mf 0 0) 2 p0), rfl, (show (mf 3).toInt = (mf 3).toInt from rfl), (show (mf 10).toInt = (mf 10).toInt from rfl), (show 0 ≤ p0.toInt from by first | exact oz_18a5c06a28 nc1 | omega), (show p0.toInt ≤ 2048 from by first | exact oz_32ba32251b nc3 g1 | omega), (show ((0 : Int) = 0 ∧ 0 ≤ p0.toInt ∧ p0.toInt ≤ (mf 2).toInt ∧ p0.toInt = p0.toInt) ∨ ((0 : Int) = 1 ∧ (p0.toInt < 0 ∨ (mf 2).toInt < p0.toInt) ∧ p0.toInt = (mf 2).toInt) from by omega)⟩) d_Mo_end_40
      · exact absurd c4 (by decide)
    · have nc3 : ¬ p0.toInt ≤ (mf 2).toInt := mt (i_le (x := p0) (y := (mf 2))).mpr c3
      refine lv_iconst (v := 1) S.x S.b d_Mo_end_13 (by decide) ?_
      refine lv_goto (tgt := 18) S.x S.b d_Mo_end_14 (by decide) ?_
      refine px_put S k_Mo hT hw 0 0 0 rfl rfl (by decide) m11_78 rfl rfl rfl (Nat.le_of_ble_eq_true rfl) d_Mo_end_18 (w' := wd_Mo cs mo mr (fun _ => none) (upd mf 0 1) md (gMo PG hq)) (ps' := [wd_Mo cs mo mr (fun _ => none) (upd mf 0 1) md (gMo PG hq), fm 13 (fPr cs hq qr QO QF QA), fm 8 (fPg cs PG)]) rfl rfl (fun H locs hw => ?_)
      refine lv_aload_n S.x S.b d_Mo_end_21 rfl (lv_at hl 0 rfl) ?_
      refine lv_aload_n S.x S.b d_Mo_end_22 rfl (lv_at hl 0 rfl) ?_
      refine px_get S k_Mo hT hw 0 0 0 (v := .int 1) rfl rfl rfl (by decide) m11_78 d_Mo_end_23 ?_
      refine lv_if_le (tgt := 36) S.x S.b d_Mo_end_26 (by decide) (fun c5 => ?_) (fun c5 => ?_)
      · exact absurd c5 (by decide)
      ·
        refine lv_aload_n S.x S.b d_Mo_end_29 rfl (lv_at hl 0 rfl) ?_
        refine px_get S k_Mo hT hw 0 0 2 (v := .int (mf 2)) rfl rfl rfl (by decide) m11_80 d_Mo_end_30 ?_
        refine lv_goto (tgt := 37) S.x S.b d_Mo_end_33 (by decide) ?_
        refine px_put S k_Mo hT hw 0 0 2 rfl rfl (by decide) m11_80 rfl rfl rfl (Nat.le_of_ble_eq_true rfl) d_Mo_end_37 (w' := wd_Mo cs mo mr (fun _ => none) (upd (upd mf 0 1) 2 (mf 2)) md (gMo PG hq)) (ps' := [wd_Mo cs mo mr (fun _ => none) (upd (upd mf 0 1) 2 (mf 2)) md (gMo PG hq), fm 13 (fPr cs hq qr QO QF QA), fm 8 (fPg cs PG)]) rfl rfl (fun H locs hw => ?_)
        exact px_vret S hr hlk hAe hw (Nat.le_of_ble_eq_true rfl) (Nat.le_of_ble_eq_true rfl) (⟨(upd (upd mf 0 1) 2 (mf 2)), rfl, (show (mf 3).toInt = (mf 3).toInt from rfl), (show (mf 10).toInt = (mf 10).toInt from rfl), (show 0 ≤ (mf 2).toInt from by first | exact g0 | omega), (show (mf 2).toInt ≤ 2048 from by first | exact g1 | omega), (show ((1 : Int) = 0 ∧ 0 ≤ p0.toInt ∧ p0.toInt ≤ (mf 2).toInt ∧ (mf 2).toInt = p0.toInt) ∨ ((1 : Int) = 1 ∧ (p0.toInt < 0 ∨ (mf 2).toInt < p0.toInt) ∧ (mf 2).toInt = (mf 2).toInt) from by omega)⟩) d_Mo_end_40
abbrev b_Mo_place : ByteArray := prog_14_method_7_code
def y_Mo_place : MethodName := ⟨"HomeSystemModel", "place", "()I"⟩
theorem d_Mo_place_0 : decode b_Mo_place 0 = .ok (.aload_n 0, 1) := by decide +kernel
theorem d_Mo_place_1 : decode b_Mo_place 1 = .ok (.iconst 0, 1) := by decide +kernel
theorem d_Mo_place_2 : decode b_Mo_place 2 = .ok (.putfield 35, 3) := by decide +kernel
theorem d_Mo_place_5 : decode b_Mo_place 5 = .ok (.aload_n 0, 1) := by decide +kernel
theorem d_Mo_place_6 : decode b_Mo_place 6 = .ok (.getfield 52, 3) := by decide +kernel
theorem d_Mo_place_9 : decode b_Mo_place 9 = .ok (.ireturn, 1) := by decide +kernel
theorem q_Mo_place : px_y y_Mo_place 0 := by unfold px_y; decide +kernel
set_option maxHeartbeats 4000000 in
set_option maxRecDepth 100000 in
theorem c_mo_place (l : Launch) (D : va_G) (cs : Nat → ClassId) (mo : Nat) (mr : Nat → Nat) (md : Nat → Nat → Int32) (mf : Nat → Int32) (hq : Nat → Nat) (qr : Nat → Nat → Nat) (QO : Nat → Option Nat) (QF : Nat → Nat → Int32) (QA : Nat → Nat → Nat → Int32) (PG : Nat → Pgs)  (hpn : PrN QF) (hpg : PgA PG) : MetI l y_Mo_place b_Mo_place 1 (.int) D cs 0 0 (0) (0) [.ref mo] [wd_Mo cs mo mr (fun _ => none) mf md (gMo PG hq), fm 13 (fPr cs hq qr QO QF QA), fm 8 (fPg cs PG)] (fun _ => True) (fun v ps => ∃ (mf' : Nat → Int32), (ps = [wd_Mo cs mo mr (fun _ => none) mf' md (gMo PG hq), fm 13 (fPr cs hq qr QO QF QA), fm 8 (fPg cs PG)]) ∧ ((mf' 2).toInt = (mf 2).toInt) ∧ ((mf' 3).toInt = (mf 3).toInt) ∧ ((mf' 10).toInt = (mf 10).toInt)) := by
  refine px_enter (by decide) (Nat.le_of_ble_eq_true rfl) ?_
  intro p e s m below meth c A ls hAe S hr hlk hnm hA hT hX hw hl
  replace hl : lv_has ls 1 [(0, .ref mo)] := hl
  have cst0 : (0 : Int32).toInt = 0 := rfl
  refine lv_aload_n S.x S.b d_Mo_place_0 rfl (lv_at hl 0 rfl) ?_
  refine lv_iconst (v := 0) S.x S.b d_Mo_place_1 (by decide) ?_
  refine px_put S k_Mo hT hw 0 0 0 rfl rfl (by decide) m11_78 rfl rfl rfl (Nat.le_of_ble_eq_true rfl) d_Mo_place_2 (w' := wd_Mo cs mo mr (fun _ => none) (upd mf 0 0) md (gMo PG hq)) (ps' := [wd_Mo cs mo mr (fun _ => none) (upd mf 0 0) md (gMo PG hq), fm 13 (fPr cs hq qr QO QF QA), fm 8 (fPg cs PG)]) rfl rfl (fun H locs hw => ?_)
  refine lv_aload_n S.x S.b d_Mo_place_5 rfl (lv_at hl 0 rfl) ?_
  refine px_get S k_Mo hT hw 0 0 3 (v := .int (mf 3)) rfl rfl rfl (by decide) m11_81 d_Mo_place_6 ?_
  exact px_iret (v := (mf 3)) S hr rfl hlk hAe hw (Nat.le_of_ble_eq_true rfl) (Nat.le_of_ble_eq_true rfl) (⟨(upd mf 0 0), rfl, (show (mf 2).toInt = (mf 2).toInt from rfl), (show (mf 3).toInt = (mf 3).toInt from rfl), (show (mf 10).toInt = (mf 10).toInt from rfl)⟩) d_Mo_place_9
abbrev b_Mo_turn : ByteArray := prog_14_method_9_code
def y_Mo_turn : MethodName := ⟨"HomeSystemModel", "turn", "(I)V"⟩
theorem d_Mo_turn_0 : decode b_Mo_turn 0 = .ok (.aload_n 0, 1) := by decide +kernel
theorem d_Mo_turn_1 : decode b_Mo_turn 1 = .ok (.iload_n 1, 1) := by decide +kernel
theorem d_Mo_turn_2 : decode b_Mo_turn 2 = .ok (.sipush 200, 3) := by decide +kernel
theorem d_Mo_turn_5 : decode b_Mo_turn 5 = .ok (.if_icmp .lt 9, 3) := by decide +kernel
theorem d_Mo_turn_8 : decode b_Mo_turn 8 = .ok (.iload_n 1, 1) := by decide +kernel
theorem d_Mo_turn_9 : decode b_Mo_turn 9 = .ok (.ldc 64, 2) := by decide +kernel
theorem d_Mo_turn_11 : decode b_Mo_turn 11 = .ok (.if_icmp .le 7, 3) := by decide +kernel
theorem d_Mo_turn_14 : decode b_Mo_turn 14 = .ok (.iconst 1, 1) := by decide +kernel
theorem d_Mo_turn_15 : decode b_Mo_turn 15 = .ok (.goto 4, 3) := by decide +kernel
theorem d_Mo_turn_18 : decode b_Mo_turn 18 = .ok (.iconst 0, 1) := by decide +kernel
theorem d_Mo_turn_19 : decode b_Mo_turn 19 = .ok (.putfield 35, 3) := by decide +kernel
theorem d_Mo_turn_22 : decode b_Mo_turn 22 = .ok (.return_, 1) := by decide +kernel
theorem q_Mo_turn : px_y y_Mo_turn 1 := by unfold px_y; decide +kernel
set_option maxHeartbeats 4000000 in
set_option maxRecDepth 100000 in
theorem c_mo_turn (l : Launch) (D : va_G) (cs : Nat → ClassId) (mo : Nat) (mr : Nat → Nat) (md : Nat → Nat → Int32) (mf : Nat → Int32) (hq : Nat → Nat) (qr : Nat → Nat → Nat) (QO : Nat → Option Nat) (QF : Nat → Nat → Int32) (QA : Nat → Nat → Nat → Int32) (PG : Nat → Pgs) (p0 : Int32)  (hpn : PrN QF) (hpg : PgA PG) : MetV l y_Mo_turn b_Mo_turn 2 D cs 0 0 (0) (0) [.ref mo, .int p0] [wd_Mo cs mo mr (fun _ => none) mf md (gMo PG hq), fm 13 (fPr cs hq qr QO QF QA), fm 8 (fPg cs PG)] (fun _ => True) (fun ps => ∃ (mf' : Nat → Int32), (ps = [wd_Mo cs mo mr (fun _ => none) mf' md (gMo PG hq), fm 13 (fPr cs hq qr QO QF QA), fm 8 (fPg cs PG)]) ∧ ((mf' 2).toInt = (mf 2).toInt) ∧ ((mf' 3).toInt = (mf 3).toInt) ∧ ((mf' 10).toInt = (mf 10).toInt) ∧ (((mf' 0).toInt = 0 ∧ 200 ≤ p0.toInt ∧ p0.toInt ≤ 100000) ∨ ((mf' 0).toInt = 1 ∧ (p0.toInt < 200 ∨ 100000 < p0.toInt)))) := by
  refine px_enter (by decide) (Nat.le_of_ble_eq_true rfl) ?_
  intro p e s m below meth c A ls hAe S hr hlk hnm hA hT hX hw hl
  replace hl : lv_has ls 2 [(0, .ref mo), (1, .int p0)] := hl
  have lp0 := Int32.le_toInt p0
  have up0 := Int32.toInt_lt p0
  have cst0 : (0 : Int32).toInt = 0 := rfl
  have cst1 : (1 : Int32).toInt = 1 := rfl
  have cst200 : (200 : Int32).toInt = 200 := rfl
  refine lv_aload_n S.x S.b d_Mo_turn_0 rfl (lv_at hl 0 rfl) ?_
  refine lv_iload_n S.x S.b d_Mo_turn_1 rfl (lv_at hl 1 rfl) ?_
  refine lv_sipush (v := 200) S.x S.b d_Mo_turn_2 (by decide) ?_
  refine lv_icmp_lt (tgt := 14) S.x S.b d_Mo_turn_5 (by decide) (fun c1 => ?_) (fun c1 => ?_)
  · have nc1 : p0.toInt < (200 : Int) := (i_lt (x := p0) (y := 200)).mp c1
    refine lv_iconst (v := 1) S.x S.b d_Mo_turn_14 (by decide) ?_
    refine lv_goto (tgt := 19) S.x S.b d_Mo_turn_15 (by decide) ?_
    refine px_put S k_Mo hT hw 0 0 0 rfl rfl (by decide) m11_78 rfl rfl rfl (Nat.le_of_ble_eq_true rfl) d_Mo_turn_19 (w' := wd_Mo cs mo mr (fun _ => none) (upd mf 0 1) md (gMo PG hq)) (ps' := [wd_Mo cs mo mr (fun _ => none) (upd mf 0 1) md (gMo PG hq), fm 13 (fPr cs hq qr QO QF QA), fm 8 (fPg cs PG)]) rfl rfl (fun H locs hw => ?_)
    exact px_vret S hr hlk hAe hw (Nat.le_of_ble_eq_true rfl) (Nat.le_of_ble_eq_true rfl) (⟨(upd mf 0 1), rfl, (show (mf 2).toInt = (mf 2).toInt from rfl), (show (mf 3).toInt = (mf 3).toInt from rfl), (show (mf 10).toInt = (mf 10).toInt from rfl), (show ((1 : Int) = 0 ∧ 200 ≤ p0.toInt ∧ p0.toInt ≤ 100000) ∨ ((1 : Int) = 1 ∧ (p0.toInt < 200 ∨ 100000 < p0.toInt)) from by first | with_reducible rfl | with_reducible assumption | omega)⟩) d_Mo_turn_22
  · have nc1 : ¬ p0.toInt < (200 : Int) := mt (i_lt (x := p0) (y := 200)).mpr c1
    refine lv_iload_n S.x S.b d_Mo_turn_8 rfl (lv_at hl 1 rfl) ?_
    refine lv_ldc (v := 100000) S.x S.b S.own (S.w m13_147) d_Mo_turn_9 ?_
    refine lv_icmp_le (tgt := 18) S.x S.b d_Mo_turn_11 (by decide) (fun c2 => ?_) (fun c2 => ?_)
    · have nc2 : p0.toInt ≤ (100000 : Int) := (i_le (x := p0) (y := 100000)).mp c2
      refine lv_iconst (v := 0) S.x S.b d_Mo_turn_18 (by decide) ?_
      refine px_put S k_Mo hT hw 0 0 0 rfl rfl (by decide) m11_78 rfl rfl rfl (Nat.le_of_ble_eq_true rfl) d_Mo_turn_19 (w' := wd_Mo cs mo mr (fun _ => none) (upd mf 0 0) md (gMo PG hq)) (ps' := [wd_Mo cs mo mr (fun _ => none) (upd mf 0 0) md (gMo PG hq), fm 13 (fPr cs hq qr QO QF QA), fm 8 (fPg cs PG)]) rfl rfl (fun H locs hw => ?_)
      exact px_vret S hr hlk hAe hw (Nat.le_of_ble_eq_true rfl) (Nat.le_of_ble_eq_true rfl) (⟨(upd mf 0 0), rfl, (show (mf 2).toInt = (mf 2).toInt from rfl), (show (mf 3).toInt = (mf 3).toInt from rfl), (show (mf 10).toInt = (mf 10).toInt from rfl), (show ((0 : Int) = 0 ∧ 200 ≤ p0.toInt ∧ p0.toInt ≤ 100000) ∨ ((0 : Int) = 1 ∧ (p0.toInt < 200 ∨ 100000 < p0.toInt)) from by first | with_reducible rfl | with_reducible assumption | omega)⟩) d_Mo_turn_22
    · have nc2 : ¬ p0.toInt ≤ (100000 : Int) := mt (i_le (x := p0) (y := 100000)).mpr c2
      refine lv_iconst (v := 1) S.x S.b d_Mo_turn_14 (by decide) ?_
      refine lv_goto (tgt := 19) S.x S.b d_Mo_turn_15 (by decide) ?_
      refine px_put S k_Mo hT hw 0 0 0 rfl rfl (by decide) m11_78 rfl rfl rfl (Nat.le_of_ble_eq_true rfl) d_Mo_turn_19 (w' := wd_Mo cs mo mr (fun _ => none) (upd mf 0 1) md (gMo PG hq)) (ps' := [wd_Mo cs mo mr (fun _ => none) (upd mf 0 1) md (gMo PG hq), fm 13 (fPr cs hq qr QO QF QA), fm 8 (fPg cs PG)]) rfl rfl (fun H locs hw => ?_)
      exact px_vret S hr hlk hAe hw (Nat.le_of_ble_eq_true rfl) (Nat.le_of_ble_eq_true rfl) (⟨(upd mf 0 1), rfl, (show (mf 2).toInt = (mf 2).toInt from rfl), (show (mf 3).toInt = (mf 3).toInt from rfl), (show (mf 10).toInt = (mf 10).toInt from rfl), (show ((1 : Int) = 0 ∧ 200 ≤ p0.toInt ∧ p0.toInt ≤ 100000) ∨ ((1 : Int) = 1 ∧ (p0.toInt < 200 ∨ 100000 < p0.toInt)) from by first | with_reducible rfl | with_reducible assumption | omega)⟩) d_Mo_turn_22
abbrev b_Mo_life : ByteArray := prog_14_method_38_code
def y_Mo_life : MethodName := ⟨"HomeSystemModel", "life", "()I"⟩
theorem d_Mo_life_0 : decode b_Mo_life 0 = .ok (.aload_n 0, 1) := by decide +kernel
theorem d_Mo_life_1 : decode b_Mo_life 1 = .ok (.iconst 0, 1) := by decide +kernel
theorem d_Mo_life_2 : decode b_Mo_life 2 = .ok (.putfield 35, 3) := by decide +kernel
theorem d_Mo_life_5 : decode b_Mo_life 5 = .ok (.aload_n 0, 1) := by decide +kernel
theorem d_Mo_life_6 : decode b_Mo_life 6 = .ok (.getfield 29, 3) := by decide +kernel
theorem d_Mo_life_9 : decode b_Mo_life 9 = .ok (.ireturn, 1) := by decide +kernel
theorem q_Mo_life : px_y y_Mo_life 0 := by unfold px_y; decide +kernel
set_option maxHeartbeats 4000000 in
set_option maxRecDepth 100000 in
theorem c_mo_life (l : Launch) (D : va_G) (cs : Nat → ClassId) (mo : Nat) (mr : Nat → Nat) (md : Nat → Nat → Int32) (mf : Nat → Int32) (hq : Nat → Nat) (qr : Nat → Nat → Nat) (QO : Nat → Option Nat) (QF : Nat → Nat → Int32) (QA : Nat → Nat → Nat → Int32) (PG : Nat → Pgs)  (hpn : PrN QF) (hpg : PgA PG) : MetI l y_Mo_life b_Mo_life 1 (.int) D cs 0 0 (0) (0) [.ref mo] [wd_Mo cs mo mr (fun _ => none) mf md (gMo PG hq), fm 13 (fPr cs hq qr QO QF QA), fm 8 (fPg cs PG)] (fun _ => True) (fun v ps => ∃ (mf' : Nat → Int32), (ps = [wd_Mo cs mo mr (fun _ => none) mf' md (gMo PG hq), fm 13 (fPr cs hq qr QO QF QA), fm 8 (fPg cs PG)]) ∧ ((mf' 2).toInt = (mf 2).toInt) ∧ ((mf' 3).toInt = (mf 3).toInt) ∧ ((mf' 10).toInt = (mf 10).toInt)) := by
  refine px_enter (by decide) (Nat.le_of_ble_eq_true rfl) ?_
  intro p e s m below meth c A ls hAe S hr hlk hnm hA hT hX hw hl
  replace hl : lv_has ls 1 [(0, .ref mo)] := hl
  have cst0 : (0 : Int32).toInt = 0 := rfl
  refine lv_aload_n S.x S.b d_Mo_life_0 rfl (lv_at hl 0 rfl) ?_
  refine lv_iconst (v := 0) S.x S.b d_Mo_life_1 (by decide) ?_
  refine px_put S k_Mo hT hw 0 0 0 rfl rfl (by decide) m11_78 rfl rfl rfl (Nat.le_of_ble_eq_true rfl) d_Mo_life_2 (w' := wd_Mo cs mo mr (fun _ => none) (upd mf 0 0) md (gMo PG hq)) (ps' := [wd_Mo cs mo mr (fun _ => none) (upd mf 0 0) md (gMo PG hq), fm 13 (fPr cs hq qr QO QF QA), fm 8 (fPg cs PG)]) rfl rfl (fun H locs hw => ?_)
  refine lv_aload_n S.x S.b d_Mo_life_5 rfl (lv_at hl 0 rfl) ?_
  refine px_get S k_Mo hT hw 0 0 10 (v := .int (mf 10)) rfl rfl rfl (by decide) m11_88 d_Mo_life_6 ?_
  exact px_iret (v := (mf 10)) S hr rfl hlk hAe hw (Nat.le_of_ble_eq_true rfl) (Nat.le_of_ble_eq_true rfl) (⟨(upd mf 0 0), rfl, (show (mf 2).toInt = (mf 2).toInt from rfl), (show (mf 3).toInt = (mf 3).toInt from rfl), (show (mf 10).toInt = (mf 10).toInt from rfl)⟩) d_Mo_life_9
abbrev b_Mo_pages : ByteArray := prog_14_method_39_code
def y_Mo_pages : MethodName := ⟨"HomeSystemModel", "pages", "()I"⟩
theorem d_Mo_pages_0 : decode b_Mo_pages 0 = .ok (.aload_n 0, 1) := by decide +kernel
theorem d_Mo_pages_1 : decode b_Mo_pages 1 = .ok (.iconst 0, 1) := by decide +kernel
theorem d_Mo_pages_2 : decode b_Mo_pages 2 = .ok (.putfield 35, 3) := by decide +kernel
theorem d_Mo_pages_5 : decode b_Mo_pages 5 = .ok (.iconst 0, 1) := by decide +kernel
theorem d_Mo_pages_6 : decode b_Mo_pages 6 = .ok (.ireturn, 1) := by decide +kernel
theorem q_Mo_pages : px_y y_Mo_pages 0 := by unfold px_y; decide +kernel
set_option maxHeartbeats 4000000 in
set_option maxRecDepth 100000 in
theorem c_mo_pages (l : Launch) (D : va_G) (cs : Nat → ClassId) (mo : Nat) (mr : Nat → Nat) (md : Nat → Nat → Int32) (mf : Nat → Int32) (hq : Nat → Nat) (qr : Nat → Nat → Nat) (QO : Nat → Option Nat) (QF : Nat → Nat → Int32) (QA : Nat → Nat → Nat → Int32) (PG : Nat → Pgs)  (hpn : PrN QF) (hpg : PgA PG) : MetI l y_Mo_pages b_Mo_pages 1 (.int) D cs 0 0 (0) (0) [.ref mo] [wd_Mo cs mo mr (fun _ => none) mf md (gMo PG hq), fm 13 (fPr cs hq qr QO QF QA), fm 8 (fPg cs PG)] (fun _ => True) (fun v ps => ∃ (mf' : Nat → Int32), (ps = [wd_Mo cs mo mr (fun _ => none) mf' md (gMo PG hq), fm 13 (fPr cs hq qr QO QF QA), fm 8 (fPg cs PG)]) ∧ ((mf' 2).toInt = (mf 2).toInt) ∧ ((mf' 3).toInt = (mf 3).toInt) ∧ ((mf' 10).toInt = (mf 10).toInt) ∧ (v.toInt = 0)) := by
  refine px_enter (by decide) (Nat.le_of_ble_eq_true rfl) ?_
  intro p e s m below meth c A ls hAe S hr hlk hnm hA hT hX hw hl
  replace hl : lv_has ls 1 [(0, .ref mo)] := hl
  have cst0 : (0 : Int32).toInt = 0 := rfl
  refine lv_aload_n S.x S.b d_Mo_pages_0 rfl (lv_at hl 0 rfl) ?_
  refine lv_iconst (v := 0) S.x S.b d_Mo_pages_1 (by decide) ?_
  refine px_put S k_Mo hT hw 0 0 0 rfl rfl (by decide) m11_78 rfl rfl rfl (Nat.le_of_ble_eq_true rfl) d_Mo_pages_2 (w' := wd_Mo cs mo mr (fun _ => none) (upd mf 0 0) md (gMo PG hq)) (ps' := [wd_Mo cs mo mr (fun _ => none) (upd mf 0 0) md (gMo PG hq), fm 13 (fPr cs hq qr QO QF QA), fm 8 (fPg cs PG)]) rfl rfl (fun H locs hw => ?_)
  refine lv_iconst (v := 0) S.x S.b d_Mo_pages_5 (by decide) ?_
  exact px_iret (v := 0) S hr rfl hlk hAe hw (Nat.le_of_ble_eq_true rfl) (Nat.le_of_ble_eq_true rfl) (⟨(upd mf 0 0), rfl, (show (mf 2).toInt = (mf 2).toInt from rfl), (show (mf 3).toInt = (mf 3).toInt from rfl), (show (mf 10).toInt = (mf 10).toInt from rfl), (show (0 : Int) = 0 from by first | decide | omega)⟩) d_Mo_pages_6
abbrev b_Mo_wrong : ByteArray := prog_14_method_40_code
def y_Mo_wrong : MethodName := ⟨"HomeSystemModel", "wrong", "()I"⟩
theorem d_Mo_wrong_0 : decode b_Mo_wrong 0 = .ok (.aload_n 0, 1) := by decide +kernel
theorem d_Mo_wrong_1 : decode b_Mo_wrong 1 = .ok (.iconst 0, 1) := by decide +kernel
theorem d_Mo_wrong_2 : decode b_Mo_wrong 2 = .ok (.putfield 35, 3) := by decide +kernel
theorem d_Mo_wrong_5 : decode b_Mo_wrong 5 = .ok (.iconst 0, 1) := by decide +kernel
theorem d_Mo_wrong_6 : decode b_Mo_wrong 6 = .ok (.ireturn, 1) := by decide +kernel
theorem q_Mo_wrong : px_y y_Mo_wrong 0 := by unfold px_y; decide +kernel
set_option maxHeartbeats 4000000 in
set_option maxRecDepth 100000 in
theorem c_mo_wrong (l : Launch) (D : va_G) (cs : Nat → ClassId) (mo : Nat) (mr : Nat → Nat) (md : Nat → Nat → Int32) (mf : Nat → Int32) (hq : Nat → Nat) (qr : Nat → Nat → Nat) (QO : Nat → Option Nat) (QF : Nat → Nat → Int32) (QA : Nat → Nat → Nat → Int32) (PG : Nat → Pgs)  (hpn : PrN QF) (hpg : PgA PG) : MetI l y_Mo_wrong b_Mo_wrong 1 (.int) D cs 0 0 (0) (0) [.ref mo] [wd_Mo cs mo mr (fun _ => none) mf md (gMo PG hq), fm 13 (fPr cs hq qr QO QF QA), fm 8 (fPg cs PG)] (fun _ => True) (fun v ps => ∃ (mf' : Nat → Int32), (ps = [wd_Mo cs mo mr (fun _ => none) mf' md (gMo PG hq), fm 13 (fPr cs hq qr QO QF QA), fm 8 (fPg cs PG)]) ∧ ((mf' 2).toInt = (mf 2).toInt) ∧ ((mf' 3).toInt = (mf 3).toInt) ∧ ((mf' 10).toInt = (mf 10).toInt) ∧ (v.toInt = 0)) := by
  refine px_enter (by decide) (Nat.le_of_ble_eq_true rfl) ?_
  intro p e s m below meth c A ls hAe S hr hlk hnm hA hT hX hw hl
  replace hl : lv_has ls 1 [(0, .ref mo)] := hl
  have cst0 : (0 : Int32).toInt = 0 := rfl
  refine lv_aload_n S.x S.b d_Mo_wrong_0 rfl (lv_at hl 0 rfl) ?_
  refine lv_iconst (v := 0) S.x S.b d_Mo_wrong_1 (by decide) ?_
  refine px_put S k_Mo hT hw 0 0 0 rfl rfl (by decide) m11_78 rfl rfl rfl (Nat.le_of_ble_eq_true rfl) d_Mo_wrong_2 (w' := wd_Mo cs mo mr (fun _ => none) (upd mf 0 0) md (gMo PG hq)) (ps' := [wd_Mo cs mo mr (fun _ => none) (upd mf 0 0) md (gMo PG hq), fm 13 (fPr cs hq qr QO QF QA), fm 8 (fPg cs PG)]) rfl rfl (fun H locs hw => ?_)
  refine lv_iconst (v := 0) S.x S.b d_Mo_wrong_5 (by decide) ?_
  exact px_iret (v := 0) S hr rfl hlk hAe hw (Nat.le_of_ble_eq_true rfl) (Nat.le_of_ble_eq_true rfl) (⟨(upd mf 0 0), rfl, (show (mf 2).toInt = (mf 2).toInt from rfl), (show (mf 3).toInt = (mf 3).toInt from rfl), (show (mf 10).toInt = (mf 10).toInt from rfl), (show (0 : Int) = 0 from by first | decide | omega)⟩) d_Mo_wrong_6
abbrev b_Mo_outcome : ByteArray := prog_14_method_31_code
def y_Mo_outcome : MethodName := ⟨"HomeSystemModel", "outcome", "(I)I"⟩
theorem d_Mo_outcome_0 : decode b_Mo_outcome 0 = .ok (.aload_n 0, 1) := by decide +kernel
theorem d_Mo_outcome_1 : decode b_Mo_outcome 1 = .ok (.iload_n 1, 1) := by decide +kernel
theorem d_Mo_outcome_2 : decode b_Mo_outcome 2 = .ok (.invokestatic 233, 3) := by decide +kernel
theorem d_Mo_outcome_5 : decode b_Mo_outcome 5 = .ok (.invokevirtual 236, 3) := by decide +kernel
theorem d_Mo_outcome_8 : decode b_Mo_outcome 8 = .ok (.ifCond .eq 7, 3) := by decide +kernel
theorem d_Mo_outcome_11 : decode b_Mo_outcome 11 = .ok (.iconst 0, 1) := by decide +kernel
theorem d_Mo_outcome_12 : decode b_Mo_outcome 12 = .ok (.goto 28, 3) := by decide +kernel
theorem d_Mo_outcome_15 : decode b_Mo_outcome 15 = .ok (.aload_n 0, 1) := by decide +kernel
theorem d_Mo_outcome_16 : decode b_Mo_outcome 16 = .ok (.getfield 21, 3) := by decide +kernel
theorem d_Mo_outcome_19 : decode b_Mo_outcome 19 = .ok (.iload_n 1, 1) := by decide +kernel
theorem d_Mo_outcome_20 : decode b_Mo_outcome 20 = .ok (.aaload, 1) := by decide +kernel
theorem d_Mo_outcome_21 : decode b_Mo_outcome 21 = .ok (.getfield 69, 3) := by decide +kernel
theorem d_Mo_outcome_24 : decode b_Mo_outcome 24 = .ok (.ifCond .eq 15, 3) := by decide +kernel
theorem d_Mo_outcome_27 : decode b_Mo_outcome 27 = .ok (.aload_n 0, 1) := by decide +kernel
theorem d_Mo_outcome_28 : decode b_Mo_outcome 28 = .ok (.getfield 21, 3) := by decide +kernel
theorem d_Mo_outcome_31 : decode b_Mo_outcome 31 = .ok (.iload_n 1, 1) := by decide +kernel
theorem d_Mo_outcome_32 : decode b_Mo_outcome 32 = .ok (.aaload, 1) := by decide +kernel
theorem d_Mo_outcome_33 : decode b_Mo_outcome 33 = .ok (.getfield 127, 3) := by decide +kernel
theorem d_Mo_outcome_36 : decode b_Mo_outcome 36 = .ok (.goto 4, 3) := by decide +kernel
theorem d_Mo_outcome_39 : decode b_Mo_outcome 39 = .ok (.iconst (-1), 1) := by decide +kernel
theorem d_Mo_outcome_40 : decode b_Mo_outcome 40 = .ok (.ireturn, 1) := by decide +kernel
theorem q_Mo_outcome : px_y y_Mo_outcome 1 := by unfold px_y; decide +kernel
set_option maxHeartbeats 4000000 in
set_option maxRecDepth 100000 in
theorem c_mo_outcome (l : Launch) (D : va_G) (cs : Nat → ClassId) (mo : Nat) (mr : Nat → Nat) (md : Nat → Nat → Int32) (mf : Nat → Int32) (hq : Nat → Nat) (qr : Nat → Nat → Nat) (QO : Nat → Option Nat) (QF : Nat → Nat → Int32) (QA : Nat → Nat → Nat → Int32) (PG : Nat → Pgs) (p0 : Int32)  (hpn : PrN QF) (hpg : PgA PG) : MetI l y_Mo_outcome b_Mo_outcome 2 (.int) D cs 1 40 (0) (0) [.ref mo, .int p0] [wd_Mo cs mo mr (fun _ => none) mf md (gMo PG hq), fm 13 (fPr cs hq qr QO QF QA), fm 8 (fPg cs PG)] (fun _ => True) (fun v ps => ∃ (mf' : Nat → Int32), (ps = [wd_Mo cs mo mr (fun _ => none) mf' md (gMo PG hq), fm 13 (fPr cs hq qr QO QF QA), fm 8 (fPg cs PG)]) ∧ ((mf' 2).toInt = (mf 2).toInt) ∧ ((mf' 3).toInt = (mf 3).toInt) ∧ ((mf' 10).toInt = (mf 10).toInt)) := by
  refine px_enter (by decide) (Nat.le_of_ble_eq_true rfl) ?_
  intro p e s m below meth c A ls hAe S hr hlk hnm hA hT hX hw hl
  replace hl : lv_has ls 2 [(0, .ref mo), (1, .int p0)] := hl
  have lp0 := Int32.le_toInt p0
  have up0 := Int32.toInt_lt p0
  have cstm1 : ((-1) : Int32).toInt = (-1) := rfl
  have cst0 : (0 : Int32).toInt = 0 := rfl
  refine lv_aload_n S.x S.b d_Mo_outcome_0 rfl (lv_at hl 0 rfl) ?_
  refine lv_iload_n S.x S.b d_Mo_outcome_1 rfl (lv_at hl 1 rfl) ?_
  refine px_calli (pr := [wd_Mo cs mo mr (fun _ => none) mf md (gMo PG hq), fm 13 (fPr cs hq qr QO QF QA), fm 8 (fPg cs PG)]) (px_runS (As := [.int p0]) (rest := [.ref mo]) S (c_mo_isNone l D cs  p0   _) hT (pr := [wd_Mo cs mo mr (fun _ => none) mf md (gMo PG hq), fm 13 (fPr cs hq qr QO QF QA), fm 8 (fPg cs PG)]) (pcs := []) hw px_X.tt m14_180 m14_178 m14_179 m1_20 q_Mo_isNone ⟨Nat.le_of_ble_eq_true rfl, Nat.le_of_ble_eq_true rfl⟩ hl.1 rfl (Nat.le_of_ble_eq_true rfl) d_Mo_outcome_2 ⟨Nat.le_of_ble_eq_true rfl, Nat.le_of_ble_eq_true rfl⟩) hw hA (fun v2 p1 H locs hp1 hw => ?_)
  obtain ⟨rfl, e3, e4, e5⟩ := hp1
  replace e3 : 0 ≤ v2.toInt := e3
  replace e4 : v2.toInt ≤ 1 := e4
  replace e5 : v2.toInt = 0 → 0 ≤ p0.toInt ∧ p0.toInt < 13 := e5
  replace hw : pw D A s.heap H locs [wd_Mo cs mo mr (fun _ => none) mf md (gMo PG hq), fm 13 (fPr cs hq qr QO QF QA), fm 8 (fPg cs PG)] := hw
  have lv2 := Int32.le_toInt v2
  have uv2 := Int32.toInt_lt v2
  refine px_calli (pr := []) (px_runV (As := [.int v2]) (rest := []) S (c_mo_refused l D cs mo mr md mf hq qr QO QF QA PG v2  (show 0 ≤ v2.toInt from by first | exact e3 | omega) (show v2.toInt ≤ 1 from by first | exact e4 | omega) hpn hpg _) hT (pr := []) (pcs := [wd_Mo cs mo mr (fun _ => none) mf md (gMo PG hq), fm 13 (fPr cs hq qr QO QF QA), fm 8 (fPg cs PG)]) hw px_X.tt (px_recv hT hw 0 0 rfl rfl rfl) m14_184 m14_181 m14_183 ms_17_7 m1_20 q_Mo_refused ⟨Nat.le_of_ble_eq_true rfl, Nat.le_of_ble_eq_true rfl⟩ hl.1 rfl (Nat.le_of_ble_eq_true rfl) d_Mo_outcome_5 ⟨Nat.le_of_ble_eq_true rfl, Nat.le_of_ble_eq_true rfl⟩) hw hA (fun v9 p8 H locs hp8 hw => ?_)
  obtain ⟨mf7, rfl, e10, e11, e12, e13, e14⟩ := hp8
  replace e10 : (mf7 2).toInt = (mf 2).toInt := e10
  replace e11 : (mf7 3).toInt = (mf 3).toInt := e11
  replace e12 : (mf7 10).toInt = (mf 10).toInt := e12
  replace e13 : v9.toInt = v2.toInt := e13
  replace e14 : (mf7 0).toInt = v2.toInt := e14
  replace hw : pw D A s.heap H locs [wd_Mo cs mo mr (fun _ => none) mf7 md (gMo PG hq), fm 13 (fPr cs hq qr QO QF QA), fm 8 (fPg cs PG)] := hw
  have lv9 := Int32.le_toInt v9
  have uv9 := Int32.toInt_lt v9
  refine lv_if_eq (tgt := 15) S.x S.b d_Mo_outcome_8 (by decide) (fun c15 => ?_) (fun c15 => ?_)
  · have nc15 : v9.toInt = (0 : Int) := (i_eq (x := v9) (y := 0)).mp c15
    refine lv_aload_n S.x S.b d_Mo_outcome_15 rfl (lv_at hl 0 rfl) ?_
    refine px_get S k_Mo hT hw 0 0 5 (v := .ref (mr 5)) rfl rfl rfl (by decide) m11_83 d_Mo_outcome_16 ?_
    refine lv_iload_n S.x S.b d_Mo_outcome_19 rfl (lv_at hl 1 rfl) ?_
    refine px_aaldS S hT hw 0 3 10 (n := 13) (f := ((gMo PG hq) 5)) rfl rfl rfl (x := p0) (vp_in_iff.mpr (by first | exact oz_e25e63ef09 e13 nc15 e3 e5 | (constructor <;> omega))) (sk := (hq p0.toNatClampNeg)) rfl d_Mo_outcome_20 ?_
    have hw : pw D A s.heap _ _ [wd_Mo cs mo mr (fun _ => none) mf7 md (gMo PG hq), fm 8 (fPg cs PG), fm 13 (fPr cs hq qr QO QF QA)] := hw.sub [0, 2, 1] rfl rfl
    have hc16 := cl_nat (x := p0) (by first | exact oz_016f458179 hc16 | omega)
    have hi16 : p0.toNatClampNeg < 13 := by first | exact oz_1a2df8431c hc16 e13 nc15 e3 e5 | omega
    have hw : pw D A s.heap _ _ [wd_Mo cs mo mr (fun _ => none) mf7 md (gMo PG hq), fm 8 (fPg cs PG), fo 13 (fPr cs hq qr QO QF QA) p0.toNatClampNeg, wd_Mpr cs (hq p0.toNatClampNeg) (qr p0.toNatClampNeg) (fun _ => QO p0.toNatClampNeg) (QF p0.toNatClampNeg) (QA p0.toNatClampNeg) (fun _ _ => none)] := fm_out (pr := [wd_Mo cs mo mr (fun _ => none) mf7 md (gMo PG hq), fm 8 (fPg cs PG)]) (T := fPr cs hq qr QO QF QA) hw hi16
    have hpb16 := hpn p0.toNatClampNeg hi16
    unfold PsB at hpb16
    refine px_get S k_Mpr hT hw 3 0 1 (v := .int ((QF p0.toNatClampNeg) 1)) rfl rfl rfl (by decide) m10_224 d_Mo_outcome_21 ?_
    refine lv_if_eq (tgt := 39) S.x S.b d_Mo_outcome_24 (by decide) (fun c17 => ?_) (fun c17 => ?_)
    · have nc17 : ((QF p0.toNatClampNeg) 1).toInt = (0 : Int) := (i_eq (x := ((QF p0.toNatClampNeg) 1)) (y := 0)).mp c17
      refine lv_iconst (v := (-1)) S.x S.b d_Mo_outcome_39 (by decide) ?_
      have hw : pw D A s.heap _ _ [wd_Mo cs mo mr (fun _ => none) mf7 md (gMo PG hq), fm 8 (fPg cs PG), fm 13 (fPr cs hq qr QO QF QA)] := fm_back (pr := [wd_Mo cs mo mr (fun _ => none) mf7 md (gMo PG hq), fm 8 (fPg cs PG)]) (T := fPr cs hq qr QO QF QA) hw hi16
      have hw : pw D A s.heap _ _ [wd_Mo cs mo mr (fun _ => none) mf7 md (gMo PG hq), fm 13 (fPr cs hq qr QO QF QA), fm 8 (fPg cs PG)] := hw.sub [0, 2, 1] rfl rfl
      exact px_iret (v := (-1)) S hr rfl hlk hAe hw (Nat.le_of_ble_eq_true rfl) (Nat.le_of_ble_eq_true rfl) (⟨mf7, rfl, (show (mf7 2).toInt = (mf 2).toInt from by first | exact e10 | omega), (show (mf7 3).toInt = (mf 3).toInt from by first | exact e11 | omega), (show (mf7 10).toInt = (mf 10).toInt from by first | exact e12 | omega)⟩) d_Mo_outcome_40
    · have nc17 : ¬ ((QF p0.toNatClampNeg) 1).toInt = (0 : Int) := mt (i_eq (x := ((QF p0.toNatClampNeg) 1)) (y := 0)).mpr c17
      refine lv_aload_n S.x S.b d_Mo_outcome_27 rfl (lv_at hl 0 rfl) ?_
      refine px_get S k_Mo hT hw 0 0 5 (v := .ref (mr 5)) rfl rfl rfl (by decide) m11_83 d_Mo_outcome_28 ?_
      refine lv_iload_n S.x S.b d_Mo_outcome_31 rfl (lv_at hl 1 rfl) ?_
      refine px_aaldS S hT hw 0 3 10 (n := 13) (f := ((gMo PG hq) 5)) rfl rfl rfl (x := p0) (vp_in_iff.mpr (by first | exact oz_3859d57d28 hc16 hi16 | (constructor <;> omega))) (sk := (hq p0.toNatClampNeg)) rfl d_Mo_outcome_32 ?_
      refine px_get S k_Mpr hT hw 3 0 2 (v := .int ((QF p0.toNatClampNeg) 2)) rfl rfl rfl (by decide) m10_226 d_Mo_outcome_33 ?_
      refine lv_goto (tgt := 40) S.x S.b d_Mo_outcome_36 (by decide) ?_
      have hw : pw D A s.heap _ _ [wd_Mo cs mo mr (fun _ => none) mf7 md (gMo PG hq), fm 8 (fPg cs PG), fm 13 (fPr cs hq qr QO QF QA)] := fm_back (pr := [wd_Mo cs mo mr (fun _ => none) mf7 md (gMo PG hq), fm 8 (fPg cs PG)]) (T := fPr cs hq qr QO QF QA) hw hi16
      have hw : pw D A s.heap _ _ [wd_Mo cs mo mr (fun _ => none) mf7 md (gMo PG hq), fm 13 (fPr cs hq qr QO QF QA), fm 8 (fPg cs PG)] := hw.sub [0, 2, 1] rfl rfl
      exact px_iret (v := ((QF p0.toNatClampNeg) 2)) S hr rfl hlk hAe hw (Nat.le_of_ble_eq_true rfl) (Nat.le_of_ble_eq_true rfl) (⟨mf7, rfl, (show (mf7 2).toInt = (mf 2).toInt from by first | exact e10 | omega), (show (mf7 3).toInt = (mf 3).toInt from by first | exact e11 | omega), (show (mf7 10).toInt = (mf 10).toInt from by first | exact e12 | omega)⟩) d_Mo_outcome_40
  · have nc15 : ¬ v9.toInt = (0 : Int) := mt (i_eq (x := v9) (y := 0)).mpr c15
    refine lv_iconst (v := 0) S.x S.b d_Mo_outcome_11 (by decide) ?_
    refine lv_goto (tgt := 40) S.x S.b d_Mo_outcome_12 (by decide) ?_
    exact px_iret (v := 0) S hr rfl hlk hAe hw (Nat.le_of_ble_eq_true rfl) (Nat.le_of_ble_eq_true rfl) (⟨mf7, rfl, (show (mf7 2).toInt = (mf 2).toInt from by first | exact e10 | omega), (show (mf7 3).toInt = (mf 3).toInt from by first | exact e11 | omega), (show (mf7 10).toInt = (mf 10).toInt from by first | exact e12 | omega)⟩) d_Mo_outcome_40
abbrev b_Mo_value : ByteArray := prog_14_method_32_code
def y_Mo_value : MethodName := ⟨"HomeSystemModel", "value", "(I)I"⟩
theorem d_Mo_value_0 : decode b_Mo_value 0 = .ok (.aload_n 0, 1) := by decide +kernel
theorem d_Mo_value_1 : decode b_Mo_value 1 = .ok (.iload_n 1, 1) := by decide +kernel
theorem d_Mo_value_2 : decode b_Mo_value 2 = .ok (.invokestatic 233, 3) := by decide +kernel
theorem d_Mo_value_5 : decode b_Mo_value 5 = .ok (.invokevirtual 236, 3) := by decide +kernel
theorem d_Mo_value_8 : decode b_Mo_value 8 = .ok (.ifCond .eq 7, 3) := by decide +kernel
theorem d_Mo_value_11 : decode b_Mo_value 11 = .ok (.iconst 0, 1) := by decide +kernel
theorem d_Mo_value_12 : decode b_Mo_value 12 = .ok (.goto 28, 3) := by decide +kernel
theorem d_Mo_value_15 : decode b_Mo_value 15 = .ok (.aload_n 0, 1) := by decide +kernel
theorem d_Mo_value_16 : decode b_Mo_value 16 = .ok (.getfield 21, 3) := by decide +kernel
theorem d_Mo_value_19 : decode b_Mo_value 19 = .ok (.iload_n 1, 1) := by decide +kernel
theorem d_Mo_value_20 : decode b_Mo_value 20 = .ok (.aaload, 1) := by decide +kernel
theorem d_Mo_value_21 : decode b_Mo_value 21 = .ok (.getfield 69, 3) := by decide +kernel
theorem d_Mo_value_24 : decode b_Mo_value 24 = .ok (.ifCond .eq 15, 3) := by decide +kernel
theorem d_Mo_value_27 : decode b_Mo_value 27 = .ok (.aload_n 0, 1) := by decide +kernel
theorem d_Mo_value_28 : decode b_Mo_value 28 = .ok (.getfield 21, 3) := by decide +kernel
theorem d_Mo_value_31 : decode b_Mo_value 31 = .ok (.iload_n 1, 1) := by decide +kernel
theorem d_Mo_value_32 : decode b_Mo_value 32 = .ok (.aaload, 1) := by decide +kernel
theorem d_Mo_value_33 : decode b_Mo_value 33 = .ok (.getfield 130, 3) := by decide +kernel
theorem d_Mo_value_36 : decode b_Mo_value 36 = .ok (.goto 4, 3) := by decide +kernel
theorem d_Mo_value_39 : decode b_Mo_value 39 = .ok (.iconst 0, 1) := by decide +kernel
theorem d_Mo_value_40 : decode b_Mo_value 40 = .ok (.ireturn, 1) := by decide +kernel
theorem q_Mo_value : px_y y_Mo_value 1 := by unfold px_y; decide +kernel
set_option maxHeartbeats 4000000 in
set_option maxRecDepth 100000 in
theorem c_mo_value (l : Launch) (D : va_G) (cs : Nat → ClassId) (mo : Nat) (mr : Nat → Nat) (md : Nat → Nat → Int32) (mf : Nat → Int32) (hq : Nat → Nat) (qr : Nat → Nat → Nat) (QO : Nat → Option Nat) (QF : Nat → Nat → Int32) (QA : Nat → Nat → Nat → Int32) (PG : Nat → Pgs) (p0 : Int32)  (hpn : PrN QF) (hpg : PgA PG) : MetI l y_Mo_value b_Mo_value 2 (.int) D cs 1 40 (0) (0) [.ref mo, .int p0] [wd_Mo cs mo mr (fun _ => none) mf md (gMo PG hq), fm 13 (fPr cs hq qr QO QF QA), fm 8 (fPg cs PG)] (fun _ => True) (fun v ps => ∃ (mf' : Nat → Int32), (ps = [wd_Mo cs mo mr (fun _ => none) mf' md (gMo PG hq), fm 13 (fPr cs hq qr QO QF QA), fm 8 (fPg cs PG)]) ∧ ((mf' 2).toInt = (mf 2).toInt) ∧ ((mf' 3).toInt = (mf 3).toInt) ∧ ((mf' 10).toInt = (mf 10).toInt)) := by
  refine px_enter (by decide) (Nat.le_of_ble_eq_true rfl) ?_
  intro p e s m below meth c A ls hAe S hr hlk hnm hA hT hX hw hl
  replace hl : lv_has ls 2 [(0, .ref mo), (1, .int p0)] := hl
  have lp0 := Int32.le_toInt p0
  have up0 := Int32.toInt_lt p0
  have cst0 : (0 : Int32).toInt = 0 := rfl
  refine lv_aload_n S.x S.b d_Mo_value_0 rfl (lv_at hl 0 rfl) ?_
  refine lv_iload_n S.x S.b d_Mo_value_1 rfl (lv_at hl 1 rfl) ?_
  refine px_calli (pr := [wd_Mo cs mo mr (fun _ => none) mf md (gMo PG hq), fm 13 (fPr cs hq qr QO QF QA), fm 8 (fPg cs PG)]) (px_runS (As := [.int p0]) (rest := [.ref mo]) S (c_mo_isNone l D cs  p0   _) hT (pr := [wd_Mo cs mo mr (fun _ => none) mf md (gMo PG hq), fm 13 (fPr cs hq qr QO QF QA), fm 8 (fPg cs PG)]) (pcs := []) hw px_X.tt m14_180 m14_178 m14_179 m1_20 q_Mo_isNone ⟨Nat.le_of_ble_eq_true rfl, Nat.le_of_ble_eq_true rfl⟩ hl.1 rfl (Nat.le_of_ble_eq_true rfl) d_Mo_value_2 ⟨Nat.le_of_ble_eq_true rfl, Nat.le_of_ble_eq_true rfl⟩) hw hA (fun v2 p1 H locs hp1 hw => ?_)
  obtain ⟨rfl, e3, e4, e5⟩ := hp1
  replace e3 : 0 ≤ v2.toInt := e3
  replace e4 : v2.toInt ≤ 1 := e4
  replace e5 : v2.toInt = 0 → 0 ≤ p0.toInt ∧ p0.toInt < 13 := e5
  replace hw : pw D A s.heap H locs [wd_Mo cs mo mr (fun _ => none) mf md (gMo PG hq), fm 13 (fPr cs hq qr QO QF QA), fm 8 (fPg cs PG)] := hw
  have lv2 := Int32.le_toInt v2
  have uv2 := Int32.toInt_lt v2
  refine px_calli (pr := []) (px_runV (As := [.int v2]) (rest := []) S (c_mo_refused l D cs mo mr md mf hq qr QO QF QA PG v2  (show 0 ≤ v2.toInt from by first | exact e3 | omega) (show v2.toInt ≤ 1 from by first | exact e4 | omega) hpn hpg _) hT (pr := []) (pcs := [wd_Mo cs mo mr (fun _ => none) mf md (gMo PG hq), fm 13 (fPr cs hq qr QO QF QA), fm 8 (fPg cs PG)]) hw px_X.tt (px_recv hT hw 0 0 rfl rfl rfl) m14_184 m14_181 m14_183 ms_17_7 m1_20 q_Mo_refused ⟨Nat.le_of_ble_eq_true rfl, Nat.le_of_ble_eq_true rfl⟩ hl.1 rfl (Nat.le_of_ble_eq_true rfl) d_Mo_value_5 ⟨Nat.le_of_ble_eq_true rfl, Nat.le_of_ble_eq_true rfl⟩) hw hA (fun v9 p8 H locs hp8 hw => ?_)
  obtain ⟨mf7, rfl, e10, e11, e12, e13, e14⟩ := hp8
  replace e10 : (mf7 2).toInt = (mf 2).toInt := e10
  replace e11 : (mf7 3).toInt = (mf 3).toInt := e11
  replace e12 : (mf7 10).toInt = (mf 10).toInt := e12
  replace e13 : v9.toInt = v2.toInt := e13
  replace e14 : (mf7 0).toInt = v2.toInt := e14
  replace hw : pw D A s.heap H locs [wd_Mo cs mo mr (fun _ => none) mf7 md (gMo PG hq), fm 13 (fPr cs hq qr QO QF QA), fm 8 (fPg cs PG)] := hw
  have lv9 := Int32.le_toInt v9
  have uv9 := Int32.toInt_lt v9
  refine lv_if_eq (tgt := 15) S.x S.b d_Mo_value_8 (by decide) (fun c15 => ?_) (fun c15 => ?_)
  · have nc15 : v9.toInt = (0 : Int) := (i_eq (x := v9) (y := 0)).mp c15
    refine lv_aload_n S.x S.b d_Mo_value_15 rfl (lv_at hl 0 rfl) ?_
    refine px_get S k_Mo hT hw 0 0 5 (v := .ref (mr 5)) rfl rfl rfl (by decide) m11_83 d_Mo_value_16 ?_
    refine lv_iload_n S.x S.b d_Mo_value_19 rfl (lv_at hl 1 rfl) ?_
    refine px_aaldS S hT hw 0 3 10 (n := 13) (f := ((gMo PG hq) 5)) rfl rfl rfl (x := p0) (vp_in_iff.mpr (by first | exact oz_e25e63ef09 e13 nc15 e3 e5 | (constructor <;> omega))) (sk := (hq p0.toNatClampNeg)) rfl d_Mo_value_20 ?_
    have hw : pw D A s.heap _ _ [wd_Mo cs mo mr (fun _ => none) mf7 md (gMo PG hq), fm 8 (fPg cs PG), fm 13 (fPr cs hq qr QO QF QA)] := hw.sub [0, 2, 1] rfl rfl
    have hc16 := cl_nat (x := p0) (by first | exact oz_016f458179 hc16 | omega)
    have hi16 : p0.toNatClampNeg < 13 := by first | exact oz_1a2df8431c hc16 e13 nc15 e3 e5 | omega
    have hw : pw D A s.heap _ _ [wd_Mo cs mo mr (fun _ => none) mf7 md (gMo PG hq), fm 8 (fPg cs PG), fo 13 (fPr cs hq qr QO QF QA) p0.toNatClampNeg, wd_Mpr cs (hq p0.toNatClampNeg) (qr p0.toNatClampNeg) (fun _ => QO p0.toNatClampNeg) (QF p0.toNatClampNeg) (QA p0.toNatClampNeg) (fun _ _ => none)] := fm_out (pr := [wd_Mo cs mo mr (fun _ => none) mf7 md (gMo PG hq), fm 8 (fPg cs PG)]) (T := fPr cs hq qr QO QF QA) hw hi16
    have hpb16 := hpn p0.toNatClampNeg hi16
    unfold PsB at hpb16
    refine px_get S k_Mpr hT hw 3 0 1 (v := .int ((QF p0.toNatClampNeg) 1)) rfl rfl rfl (by decide) m10_224 d_Mo_value_21 ?_
    refine lv_if_eq (tgt := 39) S.x S.b d_Mo_value_24 (by decide) (fun c17 => ?_) (fun c17 => ?_)
    · have nc17 : ((QF p0.toNatClampNeg) 1).toInt = (0 : Int) := (i_eq (x := ((QF p0.toNatClampNeg) 1)) (y := 0)).mp c17
      refine lv_iconst (v := 0) S.x S.b d_Mo_value_39 (by decide) ?_
      have hw : pw D A s.heap _ _ [wd_Mo cs mo mr (fun _ => none) mf7 md (gMo PG hq), fm 8 (fPg cs PG), fm 13 (fPr cs hq qr QO QF QA)] := fm_back (pr := [wd_Mo cs mo mr (fun _ => none) mf7 md (gMo PG hq), fm 8 (fPg cs PG)]) (T := fPr cs hq qr QO QF QA) hw hi16
      have hw : pw D A s.heap _ _ [wd_Mo cs mo mr (fun _ => none) mf7 md (gMo PG hq), fm 13 (fPr cs hq qr QO QF QA), fm 8 (fPg cs PG)] := hw.sub [0, 2, 1] rfl rfl
      exact px_iret (v := 0) S hr rfl hlk hAe hw (Nat.le_of_ble_eq_true rfl) (Nat.le_of_ble_eq_true rfl) (⟨mf7, rfl, (show (mf7 2).toInt = (mf 2).toInt from by first | exact e10 | omega), (show (mf7 3).toInt = (mf 3).toInt from by first | exact e11 | omega), (show (mf7 10).toInt = (mf 10).toInt from by first | exact e12 | omega)⟩) d_Mo_value_40
    · have nc17 : ¬ ((QF p0.toNatClampNeg) 1).toInt = (0 : Int) := mt (i_eq (x := ((QF p0.toNatClampNeg) 1)) (y := 0)).mpr c17
      refine lv_aload_n S.x S.b d_Mo_value_27 rfl (lv_at hl 0 rfl) ?_
      refine px_get S k_Mo hT hw 0 0 5 (v := .ref (mr 5)) rfl rfl rfl (by decide) m11_83 d_Mo_value_28 ?_
      refine lv_iload_n S.x S.b d_Mo_value_31 rfl (lv_at hl 1 rfl) ?_
      refine px_aaldS S hT hw 0 3 10 (n := 13) (f := ((gMo PG hq) 5)) rfl rfl rfl (x := p0) (vp_in_iff.mpr (by first | exact oz_3859d57d28 hc16 hi16 | (constructor <;> omega))) (sk := (hq p0.toNatClampNeg)) rfl d_Mo_value_32 ?_
      refine px_get S k_Mpr hT hw 3 0 3 (v := .int ((QF p0.toNatClampNeg) 3)) rfl rfl rfl (by decide) m10_228 d_Mo_value_33 ?_
      refine lv_goto (tgt := 40) S.x S.b d_Mo_value_36 (by decide) ?_
      have hw : pw D A s.heap _ _ [wd_Mo cs mo mr (fun _ => none) mf7 md (gMo PG hq), fm 8 (fPg cs PG), fm 13 (fPr cs hq qr QO QF QA)] := fm_back (pr := [wd_Mo cs mo mr (fun _ => none) mf7 md (gMo PG hq), fm 8 (fPg cs PG)]) (T := fPr cs hq qr QO QF QA) hw hi16
      have hw : pw D A s.heap _ _ [wd_Mo cs mo mr (fun _ => none) mf7 md (gMo PG hq), fm 13 (fPr cs hq qr QO QF QA), fm 8 (fPg cs PG)] := hw.sub [0, 2, 1] rfl rfl
      exact px_iret (v := ((QF p0.toNatClampNeg) 3)) S hr rfl hlk hAe hw (Nat.le_of_ble_eq_true rfl) (Nat.le_of_ble_eq_true rfl) (⟨mf7, rfl, (show (mf7 2).toInt = (mf 2).toInt from by first | exact e10 | omega), (show (mf7 3).toInt = (mf 3).toInt from by first | exact e11 | omega), (show (mf7 10).toInt = (mf 10).toInt from by first | exact e12 | omega)⟩) d_Mo_value_40
  · have nc15 : ¬ v9.toInt = (0 : Int) := mt (i_eq (x := v9) (y := 0)).mpr c15
    refine lv_iconst (v := 0) S.x S.b d_Mo_value_11 (by decide) ?_
    refine lv_goto (tgt := 40) S.x S.b d_Mo_value_12 (by decide) ?_
    exact px_iret (v := 0) S hr rfl hlk hAe hw (Nat.le_of_ble_eq_true rfl) (Nat.le_of_ble_eq_true rfl) (⟨mf7, rfl, (show (mf7 2).toInt = (mf 2).toInt from by first | exact e10 | omega), (show (mf7 3).toInt = (mf 3).toInt from by first | exact e11 | omega), (show (mf7 10).toInt = (mf 10).toInt from by first | exact e12 | omega)⟩) d_Mo_value_40
abbrev b_Mo_paper : ByteArray := prog_14_method_33_code
def y_Mo_paper : MethodName := ⟨"HomeSystemModel", "paper", "(I)I"⟩
theorem d_Mo_paper_0 : decode b_Mo_paper 0 = .ok (.aload_n 0, 1) := by decide +kernel
theorem d_Mo_paper_1 : decode b_Mo_paper 1 = .ok (.iload_n 1, 1) := by decide +kernel
theorem d_Mo_paper_2 : decode b_Mo_paper 2 = .ok (.invokestatic 233, 3) := by decide +kernel
theorem d_Mo_paper_5 : decode b_Mo_paper 5 = .ok (.invokevirtual 236, 3) := by decide +kernel
theorem d_Mo_paper_8 : decode b_Mo_paper 8 = .ok (.ifCond .eq 7, 3) := by decide +kernel
theorem d_Mo_paper_11 : decode b_Mo_paper 11 = .ok (.iconst 0, 1) := by decide +kernel
theorem d_Mo_paper_12 : decode b_Mo_paper 12 = .ok (.goto 12, 3) := by decide +kernel
theorem d_Mo_paper_15 : decode b_Mo_paper 15 = .ok (.aload_n 0, 1) := by decide +kernel
theorem d_Mo_paper_16 : decode b_Mo_paper 16 = .ok (.getfield 21, 3) := by decide +kernel
theorem d_Mo_paper_19 : decode b_Mo_paper 19 = .ok (.iload_n 1, 1) := by decide +kernel
theorem d_Mo_paper_20 : decode b_Mo_paper 20 = .ok (.aaload, 1) := by decide +kernel
theorem d_Mo_paper_21 : decode b_Mo_paper 21 = .ok (.getfield 227, 3) := by decide +kernel
theorem d_Mo_paper_24 : decode b_Mo_paper 24 = .ok (.ireturn, 1) := by decide +kernel
theorem q_Mo_paper : px_y y_Mo_paper 1 := by unfold px_y; decide +kernel
set_option maxHeartbeats 4000000 in
set_option maxRecDepth 100000 in
theorem c_mo_paper (l : Launch) (D : va_G) (cs : Nat → ClassId) (mo : Nat) (mr : Nat → Nat) (md : Nat → Nat → Int32) (mf : Nat → Int32) (hq : Nat → Nat) (qr : Nat → Nat → Nat) (QO : Nat → Option Nat) (QF : Nat → Nat → Int32) (QA : Nat → Nat → Nat → Int32) (PG : Nat → Pgs) (p0 : Int32)  (hpn : PrN QF) (hpg : PgA PG) : MetI l y_Mo_paper b_Mo_paper 2 (.int) D cs 1 40 (0) (0) [.ref mo, .int p0] [wd_Mo cs mo mr (fun _ => none) mf md (gMo PG hq), fm 13 (fPr cs hq qr QO QF QA), fm 8 (fPg cs PG)] (fun _ => True) (fun v ps => ∃ (mf' : Nat → Int32), (ps = [wd_Mo cs mo mr (fun _ => none) mf' md (gMo PG hq), fm 13 (fPr cs hq qr QO QF QA), fm 8 (fPg cs PG)]) ∧ ((mf' 2).toInt = (mf 2).toInt) ∧ ((mf' 3).toInt = (mf 3).toInt) ∧ ((mf' 10).toInt = (mf 10).toInt)) := by
  refine px_enter (by decide) (Nat.le_of_ble_eq_true rfl) ?_
  intro p e s m below meth c A ls hAe S hr hlk hnm hA hT hX hw hl
  replace hl : lv_has ls 2 [(0, .ref mo), (1, .int p0)] := hl
  have lp0 := Int32.le_toInt p0
  have up0 := Int32.toInt_lt p0
  have cst0 : (0 : Int32).toInt = 0 := rfl
  refine lv_aload_n S.x S.b d_Mo_paper_0 rfl (lv_at hl 0 rfl) ?_
  refine lv_iload_n S.x S.b d_Mo_paper_1 rfl (lv_at hl 1 rfl) ?_
  refine px_calli (pr := [wd_Mo cs mo mr (fun _ => none) mf md (gMo PG hq), fm 13 (fPr cs hq qr QO QF QA), fm 8 (fPg cs PG)]) (px_runS (As := [.int p0]) (rest := [.ref mo]) S (c_mo_isNone l D cs  p0   _) hT (pr := [wd_Mo cs mo mr (fun _ => none) mf md (gMo PG hq), fm 13 (fPr cs hq qr QO QF QA), fm 8 (fPg cs PG)]) (pcs := []) hw px_X.tt m14_180 m14_178 m14_179 m1_20 q_Mo_isNone ⟨Nat.le_of_ble_eq_true rfl, Nat.le_of_ble_eq_true rfl⟩ hl.1 rfl (Nat.le_of_ble_eq_true rfl) d_Mo_paper_2 ⟨Nat.le_of_ble_eq_true rfl, Nat.le_of_ble_eq_true rfl⟩) hw hA (fun v2 p1 H locs hp1 hw => ?_)
  obtain ⟨rfl, e3, e4, e5⟩ := hp1
  replace e3 : 0 ≤ v2.toInt := e3
  replace e4 : v2.toInt ≤ 1 := e4
  replace e5 : v2.toInt = 0 → 0 ≤ p0.toInt ∧ p0.toInt < 13 := e5
  replace hw : pw D A s.heap H locs [wd_Mo cs mo mr (fun _ => none) mf md (gMo PG hq), fm 13 (fPr cs hq qr QO QF QA), fm 8 (fPg cs PG)] := hw
  have lv2 := Int32.le_toInt v2
  have uv2 := Int32.toInt_lt v2
  refine px_calli (pr := []) (px_runV (As := [.int v2]) (rest := []) S (c_mo_refused l D cs mo mr md mf hq qr QO QF QA PG v2  (show 0 ≤ v2.toInt from by first | exact e3 | omega) (show v2.toInt ≤ 1 from by first | exact e4 | omega) hpn hpg _) hT (pr := []) (pcs := [wd_Mo cs mo mr (fun _ => none) mf md (gMo PG hq), fm 13 (fPr cs hq qr QO QF QA), fm 8 (fPg cs PG)]) hw px_X.tt (px_recv hT hw 0 0 rfl rfl rfl) m14_184 m14_181 m14_183 ms_17_7 m1_20 q_Mo_refused ⟨Nat.le_of_ble_eq_true rfl, Nat.le_of_ble_eq_true rfl⟩ hl.1 rfl (Nat.le_of_ble_eq_true rfl) d_Mo_paper_5 ⟨Nat.le_of_ble_eq_true rfl, Nat.le_of_ble_eq_true rfl⟩) hw hA (fun v9 p8 H locs hp8 hw => ?_)
  obtain ⟨mf7, rfl, e10, e11, e12, e13, e14⟩ := hp8
  replace e10 : (mf7 2).toInt = (mf 2).toInt := e10
  replace e11 : (mf7 3).toInt = (mf 3).toInt := e11
  replace e12 : (mf7 10).toInt = (mf 10).toInt := e12
  replace e13 : v9.toInt = v2.toInt := e13
  replace e14 : (mf7 0).toInt = v2.toInt := e14
  replace hw : pw D A s.heap H locs [wd_Mo cs mo mr (fun _ => none) mf7 md (gMo PG hq), fm 13 (fPr cs hq qr QO QF QA), fm 8 (fPg cs PG)] := hw
  have lv9 := Int32.le_toInt v9
  have uv9 := Int32.toInt_lt v9
  refine lv_if_eq (tgt := 15) S.x S.b d_Mo_paper_8 (by decide) (fun c15 => ?_) (fun c15 => ?_)
  · have nc15 : v9.toInt = (0 : Int) := (i_eq (x := v9) (y := 0)).mp c15
    refine lv_aload_n S.x S.b d_Mo_paper_15 rfl (lv_at hl 0 rfl) ?_
    refine px_get S k_Mo hT hw 0 0 5 (v := .ref (mr 5)) rfl rfl rfl (by decide) m11_83 d_Mo_paper_16 ?_
    refine lv_iload_n S.x S.b d_Mo_paper_19 rfl (lv_at hl 1 rfl) ?_
    refine px_aaldS S hT hw 0 3 10 (n := 13) (f := ((gMo PG hq) 5)) rfl rfl rfl (x := p0) (vp_in_iff.mpr (by first | exact oz_e25e63ef09 e13 nc15 e3 e5 | (constructor <;> omega))) (sk := (hq p0.toNatClampNeg)) rfl d_Mo_paper_20 ?_
    have hw : pw D A s.heap _ _ [wd_Mo cs mo mr (fun _ => none) mf7 md (gMo PG hq), fm 8 (fPg cs PG), fm 13 (fPr cs hq qr QO QF QA)] := hw.sub [0, 2, 1] rfl rfl
    have hc16 := cl_nat (x := p0) (by first | exact oz_016f458179 hc16 | omega)
    have hi16 : p0.toNatClampNeg < 13 := by first | exact oz_1a2df8431c hc16 e13 nc15 e3 e5 | omega
    have hw : pw D A s.heap _ _ [wd_Mo cs mo mr (fun _ => none) mf7 md (gMo PG hq), fm 8 (fPg cs PG), fo 13 (fPr cs hq qr QO QF QA) p0.toNatClampNeg, wd_Mpr cs (hq p0.toNatClampNeg) (qr p0.toNatClampNeg) (fun _ => QO p0.toNatClampNeg) (QF p0.toNatClampNeg) (QA p0.toNatClampNeg) (fun _ _ => none)] := fm_out (pr := [wd_Mo cs mo mr (fun _ => none) mf7 md (gMo PG hq), fm 8 (fPg cs PG)]) (T := fPr cs hq qr QO QF QA) hw hi16
    have hpb16 := hpn p0.toNatClampNeg hi16
    unfold PsB at hpb16
    refine px_get S k_Mpr hT hw 3 0 24 (v := .int ((QF p0.toNatClampNeg) 24)) rfl rfl rfl (by decide) m11_22 d_Mo_paper_21 ?_
    have hw : pw D A s.heap _ _ [wd_Mo cs mo mr (fun _ => none) mf7 md (gMo PG hq), fm 8 (fPg cs PG), fm 13 (fPr cs hq qr QO QF QA)] := fm_back (pr := [wd_Mo cs mo mr (fun _ => none) mf7 md (gMo PG hq), fm 8 (fPg cs PG)]) (T := fPr cs hq qr QO QF QA) hw hi16
    have hw : pw D A s.heap _ _ [wd_Mo cs mo mr (fun _ => none) mf7 md (gMo PG hq), fm 13 (fPr cs hq qr QO QF QA), fm 8 (fPg cs PG)] := hw.sub [0, 2, 1] rfl rfl
    exact px_iret (v := ((QF p0.toNatClampNeg) 24)) S hr rfl hlk hAe hw (Nat.le_of_ble_eq_true rfl) (Nat.le_of_ble_eq_true rfl) (⟨mf7, rfl, (show (mf7 2).toInt = (mf 2).toInt from by first | exact e10 | omega), (show (mf7 3).toInt = (mf 3).toInt from by first | exact e11 | omega), (show (mf7 10).toInt = (mf 10).toInt from by first | exact e12 | omega)⟩) d_Mo_paper_24
  · have nc15 : ¬ v9.toInt = (0 : Int) := mt (i_eq (x := v9) (y := 0)).mpr c15
    refine lv_iconst (v := 0) S.x S.b d_Mo_paper_11 (by decide) ?_
    refine lv_goto (tgt := 24) S.x S.b d_Mo_paper_12 (by decide) ?_
    exact px_iret (v := 0) S hr rfl hlk hAe hw (Nat.le_of_ble_eq_true rfl) (Nat.le_of_ble_eq_true rfl) (⟨mf7, rfl, (show (mf7 2).toInt = (mf 2).toInt from by first | exact e10 | omega), (show (mf7 3).toInt = (mf 3).toInt from by first | exact e11 | omega), (show (mf7 10).toInt = (mf 10).toInt from by first | exact e12 | omega)⟩) d_Mo_paper_24
abbrev b_Mo_paperAt : ByteArray := prog_14_method_34_code
def y_Mo_paperAt : MethodName := ⟨"HomeSystemModel", "paperAt", "(II)I"⟩
theorem d_Mo_paperAt_0 : decode b_Mo_paperAt 0 = .ok (.aload_n 0, 1) := by decide +kernel
theorem d_Mo_paperAt_1 : decode b_Mo_paperAt 1 = .ok (.iload_n 1, 1) := by decide +kernel
theorem d_Mo_paperAt_2 : decode b_Mo_paperAt 2 = .ok (.invokestatic 233, 3) := by decide +kernel
theorem d_Mo_paperAt_5 : decode b_Mo_paperAt 5 = .ok (.ifCond .ne 27, 3) := by decide +kernel
theorem d_Mo_paperAt_8 : decode b_Mo_paperAt 8 = .ok (.iload_n 2, 1) := by decide +kernel
theorem d_Mo_paperAt_9 : decode b_Mo_paperAt 9 = .ok (.ifCond .lt 23, 3) := by decide +kernel
theorem d_Mo_paperAt_12 : decode b_Mo_paperAt 12 = .ok (.iload_n 2, 1) := by decide +kernel
theorem d_Mo_paperAt_13 : decode b_Mo_paperAt 13 = .ok (.sipush 255, 3) := by decide +kernel
theorem d_Mo_paperAt_16 : decode b_Mo_paperAt 16 = .ok (.if_icmp .gt 16, 3) := by decide +kernel
theorem d_Mo_paperAt_19 : decode b_Mo_paperAt 19 = .ok (.iload_n 2, 1) := by decide +kernel
theorem d_Mo_paperAt_20 : decode b_Mo_paperAt 20 = .ok (.aload_n 0, 1) := by decide +kernel
theorem d_Mo_paperAt_21 : decode b_Mo_paperAt 21 = .ok (.getfield 21, 3) := by decide +kernel
theorem d_Mo_paperAt_24 : decode b_Mo_paperAt 24 = .ok (.iload_n 1, 1) := by decide +kernel
theorem d_Mo_paperAt_25 : decode b_Mo_paperAt 25 = .ok (.aaload, 1) := by decide +kernel
theorem d_Mo_paperAt_26 : decode b_Mo_paperAt 26 = .ok (.getfield 227, 3) := by decide +kernel
theorem d_Mo_paperAt_29 : decode b_Mo_paperAt 29 = .ok (.if_icmp .lt 7, 3) := by decide +kernel
theorem d_Mo_paperAt_32 : decode b_Mo_paperAt 32 = .ok (.iconst 1, 1) := by decide +kernel
theorem d_Mo_paperAt_33 : decode b_Mo_paperAt 33 = .ok (.goto 4, 3) := by decide +kernel
theorem d_Mo_paperAt_36 : decode b_Mo_paperAt 36 = .ok (.iconst 0, 1) := by decide +kernel
theorem d_Mo_paperAt_37 : decode b_Mo_paperAt 37 = .ok (.invokevirtual 236, 3) := by decide +kernel
theorem d_Mo_paperAt_40 : decode b_Mo_paperAt 40 = .ok (.ifCond .eq 7, 3) := by decide +kernel
theorem d_Mo_paperAt_43 : decode b_Mo_paperAt 43 = .ok (.iconst 0, 1) := by decide +kernel
theorem d_Mo_paperAt_44 : decode b_Mo_paperAt 44 = .ok (.goto 14, 3) := by decide +kernel
theorem d_Mo_paperAt_47 : decode b_Mo_paperAt 47 = .ok (.aload_n 0, 1) := by decide +kernel
theorem d_Mo_paperAt_48 : decode b_Mo_paperAt 48 = .ok (.getfield 21, 3) := by decide +kernel
theorem d_Mo_paperAt_51 : decode b_Mo_paperAt 51 = .ok (.iload_n 1, 1) := by decide +kernel
theorem d_Mo_paperAt_52 : decode b_Mo_paperAt 52 = .ok (.aaload, 1) := by decide +kernel
theorem d_Mo_paperAt_53 : decode b_Mo_paperAt 53 = .ok (.getfield 240, 3) := by decide +kernel
theorem d_Mo_paperAt_56 : decode b_Mo_paperAt 56 = .ok (.iload_n 2, 1) := by decide +kernel
theorem d_Mo_paperAt_57 : decode b_Mo_paperAt 57 = .ok (.iaload, 1) := by decide +kernel
theorem d_Mo_paperAt_58 : decode b_Mo_paperAt 58 = .ok (.ireturn, 1) := by decide +kernel
theorem q_Mo_paperAt : px_y y_Mo_paperAt 2 := by unfold px_y; decide +kernel
set_option maxHeartbeats 4000000 in
set_option maxRecDepth 100000 in
theorem c_mo_paperAt (l : Launch) (D : va_G) (cs : Nat → ClassId) (mo : Nat) (mr : Nat → Nat) (md : Nat → Nat → Int32) (mf : Nat → Int32) (hq : Nat → Nat) (qr : Nat → Nat → Nat) (QO : Nat → Option Nat) (QF : Nat → Nat → Int32) (QA : Nat → Nat → Nat → Int32) (PG : Nat → Pgs) (p0 p1 : Int32)  (hpn : PrN QF) (hpg : PgA PG) : MetI l y_Mo_paperAt b_Mo_paperAt 3 (.int) D cs 1 40 (0) (0) [.ref mo, .int p0, .int p1] [wd_Mo cs mo mr (fun _ => none) mf md (gMo PG hq), fm 13 (fPr cs hq qr QO QF QA), fm 8 (fPg cs PG)] (fun _ => True) (fun v ps => ∃ (mf' : Nat → Int32), (ps = [wd_Mo cs mo mr (fun _ => none) mf' md (gMo PG hq), fm 13 (fPr cs hq qr QO QF QA), fm 8 (fPg cs PG)]) ∧ ((mf' 2).toInt = (mf 2).toInt) ∧ ((mf' 3).toInt = (mf 3).toInt) ∧ ((mf' 10).toInt = (mf 10).toInt)) := by
  refine px_enter (by decide) (Nat.le_of_ble_eq_true rfl) ?_
  intro p e s m below meth c A ls hAe S hr hlk hnm hA hT hX hw hl
  replace hl : lv_has ls 3 [(0, .ref mo), (1, .int p0), (2, .int p1)] := hl
  have lp0 := Int32.le_toInt p0
  have up0 := Int32.toInt_lt p0
  have lp1 := Int32.le_toInt p1
  have up1 := Int32.toInt_lt p1
  have cst0 : (0 : Int32).toInt = 0 := rfl
  have cst1 : (1 : Int32).toInt = 1 := rfl
  have cst255 : (255 : Int32).toInt = 255 := rfl
  refine lv_aload_n S.x S.b d_Mo_paperAt_0 rfl (lv_at hl 0 rfl) ?_
  refine lv_iload_n S.x S.b d_Mo_paperAt_1 rfl (lv_at hl 1 rfl) ?_
  refine px_calli (pr := [wd_Mo cs mo mr (fun _ => none) mf md (gMo PG hq), fm 13 (fPr cs hq qr QO QF QA), fm 8 (fPg cs PG)]) (px_runS (As := [.int p0]) (rest := [.ref mo]) S (c_mo_isNone l D cs  p0   _) hT (pr := [wd_Mo cs mo mr (fun _ => none) mf md (gMo PG hq), fm 13 (fPr cs hq qr QO QF QA), fm 8 (fPg cs PG)]) (pcs := []) hw px_X.tt m14_180 m14_178 m14_179 m1_20 q_Mo_isNone ⟨Nat.le_of_ble_eq_true rfl, Nat.le_of_ble_eq_true rfl⟩ hl.1 rfl (Nat.le_of_ble_eq_true rfl) d_Mo_paperAt_2 ⟨Nat.le_of_ble_eq_true rfl, Nat.le_of_ble_eq_true rfl⟩) hw hA (fun v2 p1 H locs hp1 hw => ?_)
  obtain ⟨rfl, e3, e4, e5⟩ := hp1
  replace e3 : 0 ≤ v2.toInt := e3
  replace e4 : v2.toInt ≤ 1 := e4
  replace e5 : v2.toInt = 0 → 0 ≤ p0.toInt ∧ p0.toInt < 13 := e5
  replace hw : pw D A s.heap H locs [wd_Mo cs mo mr (fun _ => none) mf md (gMo PG hq), fm 13 (fPr cs hq qr QO QF QA), fm 8 (fPg cs PG)] := hw
  have lv2 := Int32.le_toInt v2
  have uv2 := Int32.toInt_lt v2
  refine lv_if_ne (tgt := 32) S.x S.b d_Mo_paperAt_5 (by decide) (fun c6 => ?_) (fun c6 => ?_)
  · have nc6 : ¬ v2.toInt = (0 : Int) := mt (i_eq (x := v2) (y := 0)).mpr c6
    refine lv_iconst (v := 1) S.x S.b d_Mo_paperAt_32 (by decide) ?_
    refine lv_goto (tgt := 37) S.x S.b d_Mo_paperAt_33 (by decide) ?_
    refine px_calli (pr := []) (px_runV (As := [.int 1]) (rest := []) S (c_mo_refused l D cs mo mr md mf hq qr QO QF QA PG 1  (show 0 ≤ (1 : Int) from by first | decide | omega) (show (1 : Int) ≤ 1 from by first | decide | omega) hpn hpg _) hT (pr := []) (pcs := [wd_Mo cs mo mr (fun _ => none) mf md (gMo PG hq), fm 13 (fPr cs hq qr QO QF QA), fm 8 (fPg cs PG)]) hw px_X.tt (px_recv hT hw 0 0 rfl rfl rfl) m14_184 m14_181 m14_183 ms_17_7 m1_20 q_Mo_refused ⟨Nat.le_of_ble_eq_true rfl, Nat.le_of_ble_eq_true rfl⟩ hl.1 rfl (Nat.le_of_ble_eq_true rfl) d_Mo_paperAt_37 ⟨Nat.le_of_ble_eq_true rfl, Nat.le_of_ble_eq_true rfl⟩) hw hA (fun v10 p9 H locs hp9 hw => ?_)
    obtain ⟨mf8, rfl, e11, e12, e13, e14, e15⟩ := hp9
    replace e11 : (mf8 2).toInt = (mf 2).toInt := e11
    replace e12 : (mf8 3).toInt = (mf 3).toInt := e12
    replace e13 : (mf8 10).toInt = (mf 10).toInt := e13
    replace e14 : v10.toInt = (1 : Int) := e14
    replace e15 : (mf8 0).toInt = (1 : Int) := e15
    replace hw : pw D A s.heap H locs [wd_Mo cs mo mr (fun _ => none) mf8 md (gMo PG hq), fm 13 (fPr cs hq qr QO QF QA), fm 8 (fPg cs PG)] := hw
    have lv10 := Int32.le_toInt v10
    have uv10 := Int32.toInt_lt v10
    refine lv_if_eq (tgt := 47) S.x S.b d_Mo_paperAt_40 (by decide) (fun c16 => ?_) (fun c16 => ?_)
    · have nc16 : v10.toInt = (0 : Int) := (i_eq (x := v10) (y := 0)).mp c16
      refine lv_aload_n S.x S.b d_Mo_paperAt_47 rfl (lv_at hl 0 rfl) ?_
      refine px_get S k_Mo hT hw 0 0 5 (v := .ref (mr 5)) rfl rfl rfl (by decide) m11_83 d_Mo_paperAt_48 ?_
      refine lv_iload_n S.x S.b d_Mo_paperAt_51 rfl (lv_at hl 1 rfl) ?_
      refine px_aaldS S hT hw 0 3 10 (n := 13) (f := ((gMo PG hq) 5)) rfl rfl rfl (x := p0) (vp_in_iff.mpr (by constructor <;> omega)) (sk := (hq p0.toNatClampNeg)) rfl d_Mo_paperAt_52 ?_
      have hw : pw D A s.heap _ _ [wd_Mo cs mo mr (fun _ => none) mf8 md (gMo PG hq), fm 8 (fPg cs PG), fm 13 (fPr cs hq qr QO QF QA)] := hw.sub [0, 2, 1] rfl rfl
      have hc17 := cl_nat (x := p0) (by first | exact oz_016f458179 hc17 | omega)
      have hi17 : p0.toNatClampNeg < 13 := by omega
      have hw : pw D A s.heap _ _ [wd_Mo cs mo mr (fun _ => none) mf8 md (gMo PG hq), fm 8 (fPg cs PG), fo 13 (fPr cs hq qr QO QF QA) p0.toNatClampNeg, wd_Mpr cs (hq p0.toNatClampNeg) (qr p0.toNatClampNeg) (fun _ => QO p0.toNatClampNeg) (QF p0.toNatClampNeg) (QA p0.toNatClampNeg) (fun _ _ => none)] := fm_out (pr := [wd_Mo cs mo mr (fun _ => none) mf8 md (gMo PG hq), fm 8 (fPg cs PG)]) (T := fPr cs hq qr QO QF QA) hw hi17
      have hpb17 := hpn p0.toNatClampNeg hi17
      unfold PsB at hpb17
      refine px_get S k_Mpr hT hw 3 0 25 (v := .ref ((qr p0.toNatClampNeg) 25)) rfl rfl rfl (by decide) m11_24 d_Mo_paperAt_53 ?_
      refine lv_iload_n S.x S.b d_Mo_paperAt_56 rfl (lv_at hl 2 rfl) ?_
      refine px_iald S hT hw 3 10 (n := 256) (f := ((QA p0.toNatClampNeg) 25)) rfl (ga_Mpr_25 _ _ _ _ _ _ _) (x := p1) (vp_in_iff.mpr (by constructor <;> omega)) d_Mo_paperAt_57 ?_
      refine lv_topi (fun z18 ez18 => ?_)
      have lz18 := Int32.le_toInt z18
      have uz18 := Int32.toInt_lt z18
      have hw : pw D A s.heap _ _ [wd_Mo cs mo mr (fun _ => none) mf8 md (gMo PG hq), fm 8 (fPg cs PG), fm 13 (fPr cs hq qr QO QF QA)] := fm_back (pr := [wd_Mo cs mo mr (fun _ => none) mf8 md (gMo PG hq), fm 8 (fPg cs PG)]) (T := fPr cs hq qr QO QF QA) hw hi17
      have hw : pw D A s.heap _ _ [wd_Mo cs mo mr (fun _ => none) mf8 md (gMo PG hq), fm 13 (fPr cs hq qr QO QF QA), fm 8 (fPg cs PG)] := hw.sub [0, 2, 1] rfl rfl
      exact px_iret (v := z18) S hr rfl hlk hAe hw (Nat.le_of_ble_eq_true rfl) (Nat.le_of_ble_eq_true rfl) (⟨mf8, rfl, (show (mf8 2).toInt = (mf 2).toInt from by first | exact e11 | omega), (show (mf8 3).toInt = (mf 3).toInt from by first | exact e12 | omega), (show (mf8 10).toInt = (mf 10).toInt from by first | exact e13 | omega)⟩) d_Mo_paperAt_58
    · have nc16 : ¬ v10.toInt = (0 : Int) := mt (i_eq (x := v10) (y := 0)).mpr c16
      refine lv_iconst (v := 0) S.x S.b d_Mo_paperAt_43 (by decide) ?_
      refine lv_goto (tgt := 58) S.x S.b d_Mo_paperAt_44 (by decide) ?_
      exact px_iret (v := 0) S hr rfl hlk hAe hw (Nat.le_of_ble_eq_true rfl) (Nat.le_of_ble_eq_true rfl) (⟨mf8, rfl, (show (mf8 2).toInt = (mf 2).toInt from by first | exact e11 | omega), (show (mf8 3).toInt = (mf 3).toInt from by first | exact e12 | omega), (show (mf8 10).toInt = (mf 10).toInt from by first | exact e13 | omega)⟩) d_Mo_paperAt_58
  · have nc6 : v2.toInt = (0 : Int) := (i_eq (x := v2) (y := 0)).mp c6
    refine lv_iload_n S.x S.b d_Mo_paperAt_8 rfl (lv_at hl 2 rfl) ?_
    refine lv_if_lt (tgt := 32) S.x S.b d_Mo_paperAt_9 (by decide) (fun c19 => ?_) (fun c19 => ?_)
    · have nc19 : p1.toInt < (0 : Int) := (i_lt (x := p1) (y := 0)).mp c19
      refine lv_iconst (v := 1) S.x S.b d_Mo_paperAt_32 (by decide) ?_
      refine lv_goto (tgt := 37) S.x S.b d_Mo_paperAt_33 (by decide) ?_
      refine px_calli (pr := []) (px_runV (As := [.int 1]) (rest := []) S (c_mo_refused l D cs mo mr md mf hq qr QO QF QA PG 1  (show 0 ≤ (1 : Int) from by first | decide | omega) (show (1 : Int) ≤ 1 from by first | decide | omega) hpn hpg _) hT (pr := []) (pcs := [wd_Mo cs mo mr (fun _ => none) mf md (gMo PG hq), fm 13 (fPr cs hq qr QO QF QA), fm 8 (fPg cs PG)]) hw px_X.tt (px_recv hT hw 0 0 rfl rfl rfl) m14_184 m14_181 m14_183 ms_17_7 m1_20 q_Mo_refused ⟨Nat.le_of_ble_eq_true rfl, Nat.le_of_ble_eq_true rfl⟩ hl.1 rfl (Nat.le_of_ble_eq_true rfl) d_Mo_paperAt_37 ⟨Nat.le_of_ble_eq_true rfl, Nat.le_of_ble_eq_true rfl⟩) hw hA (fun v23 p22 H locs hp22 hw => ?_)
      obtain ⟨mf21, rfl, e24, e25, e26, e27, e28⟩ := hp22
      replace e24 : (mf21 2).toInt = (mf 2).toInt := e24
      replace e25 : (mf21 3).toInt = (mf 3).toInt := e25
      replace e26 : (mf21 10).toInt = (mf 10).toInt := e26
      replace e27 : v23.toInt = (1 : Int) := e27
      replace e28 : (mf21 0).toInt = (1 : Int) := e28
      replace hw : pw D A s.heap H locs [wd_Mo cs mo mr (fun _ => none) mf21 md (gMo PG hq), fm 13 (fPr cs hq qr QO QF QA), fm 8 (fPg cs PG)] := hw
      have lv23 := Int32.le_toInt v23
      have uv23 := Int32.toInt_lt v23
      refine lv_if_eq (tgt := 47) S.x S.b d_Mo_paperAt_40 (by decide) (fun c29 => ?_) (fun c29 => ?_)
      · have nc29 : v23.toInt = (0 : Int) := (i_eq (x := v23) (y := 0)).mp c29
        refine lv_aload_n S.x S.b d_Mo_paperAt_47 rfl (lv_at hl 0 rfl) ?_
        refine px_get S k_Mo hT hw 0 0 5 (v := .ref (mr 5)) rfl rfl rfl (by decide) m11_83 d_Mo_paperAt_48 ?_
        refine lv_iload_n S.x S.b d_Mo_paperAt_51 rfl (lv_at hl 1 rfl) ?_
        refine px_aaldS S hT hw 0 3 10 (n := 13) (f := ((gMo PG hq) 5)) rfl rfl rfl (x := p0) (vp_in_iff.mpr (by first | exact oz_a38e3fbd8b nc6 e3 e5 | (constructor <;> omega))) (sk := (hq p0.toNatClampNeg)) rfl d_Mo_paperAt_52 ?_
        have hw : pw D A s.heap _ _ [wd_Mo cs mo mr (fun _ => none) mf21 md (gMo PG hq), fm 8 (fPg cs PG), fm 13 (fPr cs hq qr QO QF QA)] := hw.sub [0, 2, 1] rfl rfl
        have hc30 := cl_nat (x := p0) (by first | exact oz_016f458179 hc30 | omega)
        have hi30 : p0.toNatClampNeg < 13 := by first | exact oz_e07a039f23 hc30 nc6 e3 e5 | omega
        have hw : pw D A s.heap _ _ [wd_Mo cs mo mr (fun _ => none) mf21 md (gMo PG hq), fm 8 (fPg cs PG), fo 13 (fPr cs hq qr QO QF QA) p0.toNatClampNeg, wd_Mpr cs (hq p0.toNatClampNeg) (qr p0.toNatClampNeg) (fun _ => QO p0.toNatClampNeg) (QF p0.toNatClampNeg) (QA p0.toNatClampNeg) (fun _ _ => none)] := fm_out (pr := [wd_Mo cs mo mr (fun _ => none) mf21 md (gMo PG hq), fm 8 (fPg cs PG)]) (T := fPr cs hq qr QO QF QA) hw hi30
        have hpb30 := hpn p0.toNatClampNeg hi30
        unfold PsB at hpb30
        refine px_get S k_Mpr hT hw 3 0 25 (v := .ref ((qr p0.toNatClampNeg) 25)) rfl rfl rfl (by decide) m11_24 d_Mo_paperAt_53 ?_
        refine lv_iload_n S.x S.b d_Mo_paperAt_56 rfl (lv_at hl 2 rfl) ?_
        refine px_iald S hT hw 3 10 (n := 256) (f := ((QA p0.toNatClampNeg) 25)) rfl (ga_Mpr_25 _ _ _ _ _ _ _) (x := p1) (vp_in_iff.mpr (by constructor <;> omega)) d_Mo_paperAt_57 ?_
        refine lv_topi (fun z31 ez31 => ?_)
        have lz31 := Int32.le_toInt z31
        have uz31 := Int32.toInt_lt z31
        have hw : pw D A s.heap _ _ [wd_Mo cs mo mr (fun _ => none) mf21 md (gMo PG hq), fm 8 (fPg cs PG), fm 13 (fPr cs hq qr QO QF QA)] := fm_back (pr := [wd_Mo cs mo mr (fun _ => none) mf21 md (gMo PG hq), fm 8 (fPg cs PG)]) (T := fPr cs hq qr QO QF QA) hw hi30
        have hw : pw D A s.heap _ _ [wd_Mo cs mo mr (fun _ => none) mf21 md (gMo PG hq), fm 13 (fPr cs hq qr QO QF QA), fm 8 (fPg cs PG)] := hw.sub [0, 2, 1] rfl rfl
        exact px_iret (v := z31) S hr rfl hlk hAe hw (Nat.le_of_ble_eq_true rfl) (Nat.le_of_ble_eq_true rfl) (⟨mf21, rfl, (show (mf21 2).toInt = (mf 2).toInt from by first | exact e24 | omega), (show (mf21 3).toInt = (mf 3).toInt from by first | exact e25 | omega), (show (mf21 10).toInt = (mf 10).toInt from by first | exact e26 | omega)⟩) d_Mo_paperAt_58
      · have nc29 : ¬ v23.toInt = (0 : Int) := mt (i_eq (x := v23) (y := 0)).mpr c29
        refine lv_iconst (v := 0) S.x S.b d_Mo_paperAt_43 (by decide) ?_
        refine lv_goto (tgt := 58) S.x S.b d_Mo_paperAt_44 (by decide) ?_
        exact px_iret (v := 0) S hr rfl hlk hAe hw (Nat.le_of_ble_eq_true rfl) (Nat.le_of_ble_eq_true rfl) (⟨mf21, rfl, (show (mf21 2).toInt = (mf 2).toInt from by first | exact e24 | omega), (show (mf21 3).toInt = (mf 3).toInt from by first | exact e25 | omega), (show (mf21 10).toInt = (mf 10).toInt from by first | exact e26 | omega)⟩) d_Mo_paperAt_58
    · have nc19 : ¬ p1.toInt < (0 : Int) := mt (i_lt (x := p1) (y := 0)).mpr c19
      refine lv_iload_n S.x S.b d_Mo_paperAt_12 rfl (lv_at hl 2 rfl) ?_
      refine lv_sipush (v := 255) S.x S.b d_Mo_paperAt_13 (by decide) ?_
      refine lv_icmp_gt (tgt := 32) S.x S.b d_Mo_paperAt_16 (by decide) (fun c32 => ?_) (fun c32 => ?_)
      · have nc32 : (255 : Int) < p1.toInt := (i_lt (x := 255) (y := p1)).mp c32
        refine lv_iconst (v := 1) S.x S.b d_Mo_paperAt_32 (by decide) ?_
        refine lv_goto (tgt := 37) S.x S.b d_Mo_paperAt_33 (by decide) ?_
        refine px_calli (pr := []) (px_runV (As := [.int 1]) (rest := []) S (c_mo_refused l D cs mo mr md mf hq qr QO QF QA PG 1  (show 0 ≤ (1 : Int) from by first | decide | omega) (show (1 : Int) ≤ 1 from by first | decide | omega) hpn hpg _) hT (pr := []) (pcs := [wd_Mo cs mo mr (fun _ => none) mf md (gMo PG hq), fm 13 (fPr cs hq qr QO QF QA), fm 8 (fPg cs PG)]) hw px_X.tt (px_recv hT hw 0 0 rfl rfl rfl) m14_184 m14_181 m14_183 ms_17_7 m1_20 q_Mo_refused ⟨Nat.le_of_ble_eq_true rfl, Nat.le_of_ble_eq_true rfl⟩ hl.1 rfl (Nat.le_of_ble_eq_true rfl) d_Mo_paperAt_37 ⟨Nat.le_of_ble_eq_true rfl, Nat.le_of_ble_eq_true rfl⟩) hw hA (fun v36 p35 H locs hp35 hw => ?_)
        obtain ⟨mf34, rfl, e37, e38, e39, e40, e41⟩ := hp35
        replace e37 : (mf34 2).toInt = (mf 2).toInt := e37
        replace e38 : (mf34 3).toInt = (mf 3).toInt := e38
        replace e39 : (mf34 10).toInt = (mf 10).toInt := e39
        replace e40 : v36.toInt = (1 : Int) := e40
        replace e41 : (mf34 0).toInt = (1 : Int) := e41
        replace hw : pw D A s.heap H locs [wd_Mo cs mo mr (fun _ => none) mf34 md (gMo PG hq), fm 13 (fPr cs hq qr QO QF QA), fm 8 (fPg cs PG)] := hw
        have lv36 := Int32.le_toInt v36
        have uv36 := Int32.toInt_lt v36
        refine lv_if_eq (tgt := 47) S.x S.b d_Mo_paperAt_40 (by decide) (fun c42 => ?_) (fun c42 => ?_)
        · have nc42 : v36.toInt = (0 : Int) := (i_eq (x := v36) (y := 0)).mp c42
          refine lv_aload_n S.x S.b d_Mo_paperAt_47 rfl (lv_at hl 0 rfl) ?_
          refine px_get S k_Mo hT hw 0 0 5 (v := .ref (mr 5)) rfl rfl rfl (by decide) m11_83 d_Mo_paperAt_48 ?_
          refine lv_iload_n S.x S.b d_Mo_paperAt_51 rfl (lv_at hl 1 rfl) ?_
          refine px_aaldS S hT hw 0 3 10 (n := 13) (f := ((gMo PG hq) 5)) rfl rfl rfl (x := p0) (vp_in_iff.mpr (by first | exact oz_a38e3fbd8b nc6 e3 e5 | (constructor <;> omega))) (sk := (hq p0.toNatClampNeg)) rfl d_Mo_paperAt_52 ?_
          have hw : pw D A s.heap _ _ [wd_Mo cs mo mr (fun _ => none) mf34 md (gMo PG hq), fm 8 (fPg cs PG), fm 13 (fPr cs hq qr QO QF QA)] := hw.sub [0, 2, 1] rfl rfl
          have hc43 := cl_nat (x := p0) (by first | exact oz_016f458179 hc43 | omega)
          have hi43 : p0.toNatClampNeg < 13 := by first | exact oz_e07a039f23 hc43 nc6 e3 e5 | omega
          have hw : pw D A s.heap _ _ [wd_Mo cs mo mr (fun _ => none) mf34 md (gMo PG hq), fm 8 (fPg cs PG), fo 13 (fPr cs hq qr QO QF QA) p0.toNatClampNeg, wd_Mpr cs (hq p0.toNatClampNeg) (qr p0.toNatClampNeg) (fun _ => QO p0.toNatClampNeg) (QF p0.toNatClampNeg) (QA p0.toNatClampNeg) (fun _ _ => none)] := fm_out (pr := [wd_Mo cs mo mr (fun _ => none) mf34 md (gMo PG hq), fm 8 (fPg cs PG)]) (T := fPr cs hq qr QO QF QA) hw hi43
          have hpb43 := hpn p0.toNatClampNeg hi43
          unfold PsB at hpb43
          refine px_get S k_Mpr hT hw 3 0 25 (v := .ref ((qr p0.toNatClampNeg) 25)) rfl rfl rfl (by decide) m11_24 d_Mo_paperAt_53 ?_
          refine lv_iload_n S.x S.b d_Mo_paperAt_56 rfl (lv_at hl 2 rfl) ?_
          refine px_iald S hT hw 3 10 (n := 256) (f := ((QA p0.toNatClampNeg) 25)) rfl (ga_Mpr_25 _ _ _ _ _ _ _) (x := p1) (vp_in_iff.mpr (by constructor <;> omega)) d_Mo_paperAt_57 ?_
          refine lv_topi (fun z44 ez44 => ?_)
          have lz44 := Int32.le_toInt z44
          have uz44 := Int32.toInt_lt z44
          have hw : pw D A s.heap _ _ [wd_Mo cs mo mr (fun _ => none) mf34 md (gMo PG hq), fm 8 (fPg cs PG), fm 13 (fPr cs hq qr QO QF QA)] := fm_back (pr := [wd_Mo cs mo mr (fun _ => none) mf34 md (gMo PG hq), fm 8 (fPg cs PG)]) (T := fPr cs hq qr QO QF QA) hw hi43
          have hw : pw D A s.heap _ _ [wd_Mo cs mo mr (fun _ => none) mf34 md (gMo PG hq), fm 13 (fPr cs hq qr QO QF QA), fm 8 (fPg cs PG)] := hw.sub [0, 2, 1] rfl rfl
          exact px_iret (v := z44) S hr rfl hlk hAe hw (Nat.le_of_ble_eq_true rfl) (Nat.le_of_ble_eq_true rfl) (⟨mf34, rfl, (show (mf34 2).toInt = (mf 2).toInt from by first | exact e37 | omega), (show (mf34 3).toInt = (mf 3).toInt from by first | exact e38 | omega), (show (mf34 10).toInt = (mf 10).toInt from by first | exact e39 | omega)⟩) d_Mo_paperAt_58
        · have nc42 : ¬ v36.toInt = (0 : Int) := mt (i_eq (x := v36) (y := 0)).mpr c42
          refine lv_iconst (v := 0) S.x S.b d_Mo_paperAt_43 (by decide) ?_
          refine lv_goto (tgt := 58) S.x S.b d_Mo_paperAt_44 (by decide) ?_
          exact px_iret (v := 0) S hr rfl hlk hAe hw (Nat.le_of_ble_eq_true rfl) (Nat.le_of_ble_eq_true rfl) (⟨mf34, rfl, (show (mf34 2).toInt = (mf 2).toInt from by first | exact e37 | omega), (show (mf34 3).toInt = (mf 3).toInt from by first | exact e38 | omega), (show (mf34 10).toInt = (mf 10).toInt from by first | exact e39 | omega)⟩) d_Mo_paperAt_58
      · have nc32 : ¬ (255 : Int) < p1.toInt := mt (i_lt (x := 255) (y := p1)).mpr c32
        refine lv_iload_n S.x S.b d_Mo_paperAt_19 rfl (lv_at hl 2 rfl) ?_
        refine lv_aload_n S.x S.b d_Mo_paperAt_20 rfl (lv_at hl 0 rfl) ?_
        refine px_get S k_Mo hT hw 0 0 5 (v := .ref (mr 5)) rfl rfl rfl (by decide) m11_83 d_Mo_paperAt_21 ?_
        refine lv_iload_n S.x S.b d_Mo_paperAt_24 rfl (lv_at hl 1 rfl) ?_
        refine px_aaldS S hT hw 0 3 10 (n := 13) (f := ((gMo PG hq) 5)) rfl rfl rfl (x := p0) (vp_in_iff.mpr (by first | exact oz_a38e3fbd8b nc6 e3 e5 | (constructor <;> omega))) (sk := (hq p0.toNatClampNeg)) rfl d_Mo_paperAt_25 ?_
        have hw : pw D A s.heap _ _ [wd_Mo cs mo mr (fun _ => none) mf md (gMo PG hq), fm 8 (fPg cs PG), fm 13 (fPr cs hq qr QO QF QA)] := hw.sub [0, 2, 1] rfl rfl
        have hc45 := cl_nat (x := p0) (by first | exact oz_016f458179 hc45 | omega)
        have hi45 : p0.toNatClampNeg < 13 := by first | exact oz_e07a039f23 hc45 nc6 e3 e5 | omega
        have hw : pw D A s.heap _ _ [wd_Mo cs mo mr (fun _ => none) mf md (gMo PG hq), fm 8 (fPg cs PG), fo 13 (fPr cs hq qr QO QF QA) p0.toNatClampNeg, wd_Mpr cs (hq p0.toNatClampNeg) (qr p0.toNatClampNeg) (fun _ => QO p0.toNatClampNeg) (QF p0.toNatClampNeg) (QA p0.toNatClampNeg) (fun _ _ => none)] := fm_out (pr := [wd_Mo cs mo mr (fun _ => none) mf md (gMo PG hq), fm 8 (fPg cs PG)]) (T := fPr cs hq qr QO QF QA) hw hi45
        have hpb45 := hpn p0.toNatClampNeg hi45
        unfold PsB at hpb45
        refine px_get S k_Mpr hT hw 3 0 24 (v := .int ((QF p0.toNatClampNeg) 24)) rfl rfl rfl (by decide) m11_22 d_Mo_paperAt_26 ?_
        refine lv_icmp_lt (tgt := 36) S.x S.b d_Mo_paperAt_29 (by decide) (fun c46 => ?_) (fun c46 => ?_)
        · have nc46 : p1.toInt < ((QF p0.toNatClampNeg) 24).toInt := (i_lt (x := p1) (y := ((QF p0.toNatClampNeg) 24))).mp c46
          refine lv_iconst (v := 0) S.x S.b d_Mo_paperAt_36 (by decide) ?_
          have hw : pw D A s.heap _ _ [wd_Mo cs mo mr (fun _ => none) mf md (gMo PG hq), fm 8 (fPg cs PG), fm 13 (fPr cs hq qr QO QF QA)] := fm_back (pr := [wd_Mo cs mo mr (fun _ => none) mf md (gMo PG hq), fm 8 (fPg cs PG)]) (T := fPr cs hq qr QO QF QA) hw hi45
          have hw : pw D A s.heap _ _ [wd_Mo cs mo mr (fun _ => none) mf md (gMo PG hq), fm 13 (fPr cs hq qr QO QF QA), fm 8 (fPg cs PG)] := hw.sub [0, 2, 1] rfl rfl
          refine px_calli (pr := []) (px_runV (As := [.int 0]) (rest := []) S (c_mo_refused l D cs mo mr md mf hq qr QO QF QA PG 0  (show 0 ≤ (0 : Int) from by first | decide | omega) (show (0 : Int) ≤ 1 from by first | decide | omega) hpn hpg _) hT (pr := []) (pcs := [wd_Mo cs mo mr (fun _ => none) mf md (gMo PG hq), fm 13 (fPr cs hq qr QO QF QA), fm 8 (fPg cs PG)]) hw px_X.tt (px_recv hT hw 0 0 rfl rfl rfl) m14_184 m14_181 m14_183 ms_17_7 m1_20 q_Mo_refused ⟨Nat.le_of_ble_eq_true rfl, Nat.le_of_ble_eq_true rfl⟩ hl.1 rfl (Nat.le_of_ble_eq_true rfl) d_Mo_paperAt_37 ⟨Nat.le_of_ble_eq_true rfl, Nat.le_of_ble_eq_true rfl⟩) hw hA (fun v50 p49 H locs hp49 hw => ?_)
          obtain ⟨mf48, rfl, e51, e52, e53, e54, e55⟩ := hp49
          replace e51 : (mf48 2).toInt = (mf 2).toInt := e51
          replace e52 : (mf48 3).toInt = (mf 3).toInt := e52
          replace e53 : (mf48 10).toInt = (mf 10).toInt := e53
          replace e54 : v50.toInt = (0 : Int) := e54
          replace e55 : (mf48 0).toInt = (0 : Int) := e55
          replace hw : pw D A s.heap H locs [wd_Mo cs mo mr (fun _ => none) mf48 md (gMo PG hq), fm 13 (fPr cs hq qr QO QF QA), fm 8 (fPg cs PG)] := hw
          have lv50 := Int32.le_toInt v50
          have uv50 := Int32.toInt_lt v50
          refine lv_if_eq (tgt := 47) S.x S.b d_Mo_paperAt_40 (by decide) (fun c56 => ?_) (fun c56 => ?_)
          · have nc56 : v50.toInt = (0 : Int) := (i_eq (x := v50) (y := 0)).mp c56
            refine lv_aload_n S.x S.b d_Mo_paperAt_47 rfl (lv_at hl 0 rfl) ?_
            refine px_get S k_Mo hT hw 0 0 5 (v := .ref (mr 5)) rfl rfl rfl (by decide) m11_83 d_Mo_paperAt_48 ?_
            refine lv_iload_n S.x S.b d_Mo_paperAt_51 rfl (lv_at hl 1 rfl) ?_
            refine px_aaldS S hT hw 0 3 10 (n := 13) (f := ((gMo PG hq) 5)) rfl rfl rfl (x := p0) (vp_in_iff.mpr (by first | exact oz_3859d57d28 hc45 hi45 | (constructor <;> omega))) (sk := (hq p0.toNatClampNeg)) rfl d_Mo_paperAt_52 ?_
            have hw : pw D A s.heap _ _ [wd_Mo cs mo mr (fun _ => none) mf48 md (gMo PG hq), fm 8 (fPg cs PG), fm 13 (fPr cs hq qr QO QF QA)] := hw.sub [0, 2, 1] rfl rfl
            have hc57 := cl_nat (x := p0) (by first | exact oz_016f458179 hc45 | omega)
            have hi57 : p0.toNatClampNeg < 13 := by first | exact hi45 | omega
            have hw : pw D A s.heap _ _ [wd_Mo cs mo mr (fun _ => none) mf48 md (gMo PG hq), fm 8 (fPg cs PG), fo 13 (fPr cs hq qr QO QF QA) p0.toNatClampNeg, wd_Mpr cs (hq p0.toNatClampNeg) (qr p0.toNatClampNeg) (fun _ => QO p0.toNatClampNeg) (QF p0.toNatClampNeg) (QA p0.toNatClampNeg) (fun _ _ => none)] := fm_out (pr := [wd_Mo cs mo mr (fun _ => none) mf48 md (gMo PG hq), fm 8 (fPg cs PG)]) (T := fPr cs hq qr QO QF QA) hw hi57
            have hpb57 := hpn p0.toNatClampNeg hi57
            unfold PsB at hpb57
            refine px_get S k_Mpr hT hw 3 0 25 (v := .ref ((qr p0.toNatClampNeg) 25)) rfl rfl rfl (by decide) m11_24 d_Mo_paperAt_53 ?_
            refine lv_iload_n S.x S.b d_Mo_paperAt_56 rfl (lv_at hl 2 rfl) ?_
            refine px_iald S hT hw 3 10 (n := 256) (f := ((QA p0.toNatClampNeg) 25)) rfl (ga_Mpr_25 _ _ _ _ _ _ _) (x := p1) (vp_in_iff.mpr (by first | exact oz_6cbab4594c nc19 nc32 | (constructor <;> omega))) d_Mo_paperAt_57 ?_
            refine lv_topi (fun z58 ez58 => ?_)
            have lz58 := Int32.le_toInt z58
            have uz58 := Int32.toInt_lt z58
            have hw : pw D A s.heap _ _ [wd_Mo cs mo mr (fun _ => none) mf48 md (gMo PG hq), fm 8 (fPg cs PG), fm 13 (fPr cs hq qr QO QF QA)] := fm_back (pr := [wd_Mo cs mo mr (fun _ => none) mf48 md (gMo PG hq), fm 8 (fPg cs PG)]) (T := fPr cs hq qr QO QF QA) hw hi57
            have hw : pw D A s.heap _ _ [wd_Mo cs mo mr (fun _ => none) mf48 md (gMo PG hq), fm 13 (fPr cs hq qr QO QF QA), fm 8 (fPg cs PG)] := hw.sub [0, 2, 1] rfl rfl
            exact px_iret (v := z58) S hr rfl hlk hAe hw (Nat.le_of_ble_eq_true rfl) (Nat.le_of_ble_eq_true rfl) (⟨mf48, rfl, (show (mf48 2).toInt = (mf 2).toInt from by first | exact e51 | omega), (show (mf48 3).toInt = (mf 3).toInt from by first | exact e52 | omega), (show (mf48 10).toInt = (mf 10).toInt from by first | exact e53 | omega)⟩) d_Mo_paperAt_58
          · have nc56 : ¬ v50.toInt = (0 : Int) := mt (i_eq (x := v50) (y := 0)).mpr c56
            refine lv_iconst (v := 0) S.x S.b d_Mo_paperAt_43 (by decide) ?_
            refine lv_goto (tgt := 58) S.x S.b d_Mo_paperAt_44 (by decide) ?_
            exact px_iret (v := 0) S hr rfl hlk hAe hw (Nat.le_of_ble_eq_true rfl) (Nat.le_of_ble_eq_true rfl) (⟨mf48, rfl, (show (mf48 2).toInt = (mf 2).toInt from by first | exact e51 | omega), (show (mf48 3).toInt = (mf 3).toInt from by first | exact e52 | omega), (show (mf48 10).toInt = (mf 10).toInt from by first | exact e53 | omega)⟩) d_Mo_paperAt_58
        · have nc46 : ¬ p1.toInt < ((QF p0.toNatClampNeg) 24).toInt := mt (i_lt (x := p1) (y := ((QF p0.toNatClampNeg) 24))).mpr c46
          refine lv_iconst (v := 1) S.x S.b d_Mo_paperAt_32 (by decide) ?_
          refine lv_goto (tgt := 37) S.x S.b d_Mo_paperAt_33 (by decide) ?_
          have hw : pw D A s.heap _ _ [wd_Mo cs mo mr (fun _ => none) mf md (gMo PG hq), fm 8 (fPg cs PG), fm 13 (fPr cs hq qr QO QF QA)] := fm_back (pr := [wd_Mo cs mo mr (fun _ => none) mf md (gMo PG hq), fm 8 (fPg cs PG)]) (T := fPr cs hq qr QO QF QA) hw hi45
          have hw : pw D A s.heap _ _ [wd_Mo cs mo mr (fun _ => none) mf md (gMo PG hq), fm 13 (fPr cs hq qr QO QF QA), fm 8 (fPg cs PG)] := hw.sub [0, 2, 1] rfl rfl
          refine px_calli (pr := []) (px_runV (As := [.int 1]) (rest := []) S (c_mo_refused l D cs mo mr md mf hq qr QO QF QA PG 1  (show 0 ≤ (1 : Int) from by first | decide | omega) (show (1 : Int) ≤ 1 from by first | decide | omega) hpn hpg _) hT (pr := []) (pcs := [wd_Mo cs mo mr (fun _ => none) mf md (gMo PG hq), fm 13 (fPr cs hq qr QO QF QA), fm 8 (fPg cs PG)]) hw px_X.tt (px_recv hT hw 0 0 rfl rfl rfl) m14_184 m14_181 m14_183 ms_17_7 m1_20 q_Mo_refused ⟨Nat.le_of_ble_eq_true rfl, Nat.le_of_ble_eq_true rfl⟩ hl.1 rfl (Nat.le_of_ble_eq_true rfl) d_Mo_paperAt_37 ⟨Nat.le_of_ble_eq_true rfl, Nat.le_of_ble_eq_true rfl⟩) hw hA (fun v62 p61 H locs hp61 hw => ?_)
          obtain ⟨mf60, rfl, e63, e64, e65, e66, e67⟩ := hp61
          replace e63 : (mf60 2).toInt = (mf 2).toInt := e63
          replace e64 : (mf60 3).toInt = (mf 3).toInt := e64
          replace e65 : (mf60 10).toInt = (mf 10).toInt := e65
          replace e66 : v62.toInt = (1 : Int) := e66
          replace e67 : (mf60 0).toInt = (1 : Int) := e67
          replace hw : pw D A s.heap H locs [wd_Mo cs mo mr (fun _ => none) mf60 md (gMo PG hq), fm 13 (fPr cs hq qr QO QF QA), fm 8 (fPg cs PG)] := hw
          have lv62 := Int32.le_toInt v62
          have uv62 := Int32.toInt_lt v62
          refine lv_if_eq (tgt := 47) S.x S.b d_Mo_paperAt_40 (by decide) (fun c68 => ?_) (fun c68 => ?_)
          · have nc68 : v62.toInt = (0 : Int) := (i_eq (x := v62) (y := 0)).mp c68
            refine lv_aload_n S.x S.b d_Mo_paperAt_47 rfl (lv_at hl 0 rfl) ?_
            refine px_get S k_Mo hT hw 0 0 5 (v := .ref (mr 5)) rfl rfl rfl (by decide) m11_83 d_Mo_paperAt_48 ?_
            refine lv_iload_n S.x S.b d_Mo_paperAt_51 rfl (lv_at hl 1 rfl) ?_
            refine px_aaldS S hT hw 0 3 10 (n := 13) (f := ((gMo PG hq) 5)) rfl rfl rfl (x := p0) (vp_in_iff.mpr (by first | exact oz_3859d57d28 hc45 hi45 | (constructor <;> omega))) (sk := (hq p0.toNatClampNeg)) rfl d_Mo_paperAt_52 ?_
            have hw : pw D A s.heap _ _ [wd_Mo cs mo mr (fun _ => none) mf60 md (gMo PG hq), fm 8 (fPg cs PG), fm 13 (fPr cs hq qr QO QF QA)] := hw.sub [0, 2, 1] rfl rfl
            have hc69 := cl_nat (x := p0) (by first | exact oz_016f458179 hc45 | omega)
            have hi69 : p0.toNatClampNeg < 13 := by first | exact hi45 | omega
            have hw : pw D A s.heap _ _ [wd_Mo cs mo mr (fun _ => none) mf60 md (gMo PG hq), fm 8 (fPg cs PG), fo 13 (fPr cs hq qr QO QF QA) p0.toNatClampNeg, wd_Mpr cs (hq p0.toNatClampNeg) (qr p0.toNatClampNeg) (fun _ => QO p0.toNatClampNeg) (QF p0.toNatClampNeg) (QA p0.toNatClampNeg) (fun _ _ => none)] := fm_out (pr := [wd_Mo cs mo mr (fun _ => none) mf60 md (gMo PG hq), fm 8 (fPg cs PG)]) (T := fPr cs hq qr QO QF QA) hw hi69
            have hpb69 := hpn p0.toNatClampNeg hi69
            unfold PsB at hpb69
            refine px_get S k_Mpr hT hw 3 0 25 (v := .ref ((qr p0.toNatClampNeg) 25)) rfl rfl rfl (by decide) m11_24 d_Mo_paperAt_53 ?_
            refine lv_iload_n S.x S.b d_Mo_paperAt_56 rfl (lv_at hl 2 rfl) ?_
            refine px_iald S hT hw 3 10 (n := 256) (f := ((QA p0.toNatClampNeg) 25)) rfl (ga_Mpr_25 _ _ _ _ _ _ _) (x := p1) (vp_in_iff.mpr (by first | exact oz_6cbab4594c nc19 nc32 | (constructor <;> omega))) d_Mo_paperAt_57 ?_
            refine lv_topi (fun z70 ez70 => ?_)
            have lz70 := Int32.le_toInt z70
            have uz70 := Int32.toInt_lt z70
            have hw : pw D A s.heap _ _ [wd_Mo cs mo mr (fun _ => none) mf60 md (gMo PG hq), fm 8 (fPg cs PG), fm 13 (fPr cs hq qr QO QF QA)] := fm_back (pr := [wd_Mo cs mo mr (fun _ => none) mf60 md (gMo PG hq), fm 8 (fPg cs PG)]) (T := fPr cs hq qr QO QF QA) hw hi69
            have hw : pw D A s.heap _ _ [wd_Mo cs mo mr (fun _ => none) mf60 md (gMo PG hq), fm 13 (fPr cs hq qr QO QF QA), fm 8 (fPg cs PG)] := hw.sub [0, 2, 1] rfl rfl
            exact px_iret (v := z70) S hr rfl hlk hAe hw (Nat.le_of_ble_eq_true rfl) (Nat.le_of_ble_eq_true rfl) (⟨mf60, rfl, (show (mf60 2).toInt = (mf 2).toInt from by first | exact e63 | omega), (show (mf60 3).toInt = (mf 3).toInt from by first | exact e64 | omega), (show (mf60 10).toInt = (mf 10).toInt from by first | exact e65 | omega)⟩) d_Mo_paperAt_58
          · have nc68 : ¬ v62.toInt = (0 : Int) := mt (i_eq (x := v62) (y := 0)).mpr c68
            refine lv_iconst (v := 0) S.x S.b d_Mo_paperAt_43 (by decide) ?_
            refine lv_goto (tgt := 58) S.x S.b d_Mo_paperAt_44 (by decide) ?_
            exact px_iret (v := 0) S hr rfl hlk hAe hw (Nat.le_of_ble_eq_true rfl) (Nat.le_of_ble_eq_true rfl) (⟨mf60, rfl, (show (mf60 2).toInt = (mf 2).toInt from by first | exact e63 | omega), (show (mf60 3).toInt = (mf 3).toInt from by first | exact e64 | omega), (show (mf60 10).toInt = (mf 10).toInt from by first | exact e65 | omega)⟩) d_Mo_paperAt_58
abbrev b_Mo_unread : ByteArray := prog_14_method_35_code
def y_Mo_unread : MethodName := ⟨"HomeSystemModel", "unread", "(IZ)I"⟩
theorem d_Mo_unread_0 : decode b_Mo_unread 0 = .ok (.aload_n 0, 1) := by decide +kernel
theorem d_Mo_unread_1 : decode b_Mo_unread 1 = .ok (.iload_n 1, 1) := by decide +kernel
theorem d_Mo_unread_2 : decode b_Mo_unread 2 = .ok (.iconst 1, 1) := by decide +kernel
theorem d_Mo_unread_3 : decode b_Mo_unread 3 = .ok (.if_icmp .lt 9, 3) := by decide +kernel
theorem d_Mo_unread_6 : decode b_Mo_unread 6 = .ok (.iload_n 1, 1) := by decide +kernel
theorem d_Mo_unread_7 : decode b_Mo_unread 7 = .ok (.bipush 13, 2) := by decide +kernel
theorem d_Mo_unread_9 : decode b_Mo_unread 9 = .ok (.if_icmp .lt 7, 3) := by decide +kernel
theorem d_Mo_unread_12 : decode b_Mo_unread 12 = .ok (.iconst 1, 1) := by decide +kernel
theorem d_Mo_unread_13 : decode b_Mo_unread 13 = .ok (.goto 4, 3) := by decide +kernel
theorem d_Mo_unread_16 : decode b_Mo_unread 16 = .ok (.iconst 0, 1) := by decide +kernel
theorem d_Mo_unread_17 : decode b_Mo_unread 17 = .ok (.invokevirtual 236, 3) := by decide +kernel
theorem d_Mo_unread_20 : decode b_Mo_unread 20 = .ok (.ifCond .eq 5, 3) := by decide +kernel
theorem d_Mo_unread_23 : decode b_Mo_unread 23 = .ok (.iconst 0, 1) := by decide +kernel
theorem d_Mo_unread_24 : decode b_Mo_unread 24 = .ok (.ireturn, 1) := by decide +kernel
theorem d_Mo_unread_25 : decode b_Mo_unread 25 = .ok (.aload_n 0, 1) := by decide +kernel
theorem d_Mo_unread_26 : decode b_Mo_unread 26 = .ok (.getfield 21, 3) := by decide +kernel
theorem d_Mo_unread_29 : decode b_Mo_unread 29 = .ok (.iload_n 1, 1) := by decide +kernel
theorem d_Mo_unread_30 : decode b_Mo_unread 30 = .ok (.aaload, 1) := by decide +kernel
theorem d_Mo_unread_31 : decode b_Mo_unread 31 = .ok (.getfield 69, 3) := by decide +kernel
theorem d_Mo_unread_34 : decode b_Mo_unread 34 = .ok (.ifCond .ne 7, 3) := by decide +kernel
theorem d_Mo_unread_37 : decode b_Mo_unread 37 = .ok (.iconst 0, 1) := by decide +kernel
theorem d_Mo_unread_38 : decode b_Mo_unread 38 = .ok (.goto 28, 3) := by decide +kernel
theorem d_Mo_unread_41 : decode b_Mo_unread 41 = .ok (.iload_n 2, 1) := by decide +kernel
theorem d_Mo_unread_42 : decode b_Mo_unread 42 = .ok (.ifCond .eq 15, 3) := by decide +kernel
theorem d_Mo_unread_45 : decode b_Mo_unread 45 = .ok (.aload_n 0, 1) := by decide +kernel
theorem d_Mo_unread_46 : decode b_Mo_unread 46 = .ok (.getfield 21, 3) := by decide +kernel
theorem d_Mo_unread_49 : decode b_Mo_unread 49 = .ok (.iload_n 1, 1) := by decide +kernel
theorem d_Mo_unread_50 : decode b_Mo_unread 50 = .ok (.aaload, 1) := by decide +kernel
theorem d_Mo_unread_51 : decode b_Mo_unread 51 = .ok (.getfield 76, 3) := by decide +kernel
theorem d_Mo_unread_54 : decode b_Mo_unread 54 = .ok (.goto 12, 3) := by decide +kernel
theorem d_Mo_unread_57 : decode b_Mo_unread 57 = .ok (.aload_n 0, 1) := by decide +kernel
theorem d_Mo_unread_58 : decode b_Mo_unread 58 = .ok (.getfield 21, 3) := by decide +kernel
theorem d_Mo_unread_61 : decode b_Mo_unread 61 = .ok (.iload_n 1, 1) := by decide +kernel
theorem d_Mo_unread_62 : decode b_Mo_unread 62 = .ok (.aaload, 1) := by decide +kernel
theorem d_Mo_unread_63 : decode b_Mo_unread 63 = .ok (.getfield 73, 3) := by decide +kernel
theorem d_Mo_unread_66 : decode b_Mo_unread 66 = .ok (.ireturn, 1) := by decide +kernel
theorem q_Mo_unread : px_y y_Mo_unread 2 := by unfold px_y; decide +kernel
set_option maxHeartbeats 4000000 in
set_option maxRecDepth 100000 in
theorem c_mo_unread (l : Launch) (D : va_G) (cs : Nat → ClassId) (mo : Nat) (mr : Nat → Nat) (md : Nat → Nat → Int32) (mf : Nat → Int32) (hq : Nat → Nat) (qr : Nat → Nat → Nat) (QO : Nat → Option Nat) (QF : Nat → Nat → Int32) (QA : Nat → Nat → Nat → Int32) (PG : Nat → Pgs) (p0 p1 : Int32)  (hpn : PrN QF) (hpg : PgA PG) : MetI l y_Mo_unread b_Mo_unread 3 (.int) D cs 1 40 (0) (0) [.ref mo, .int p0, .int p1] [wd_Mo cs mo mr (fun _ => none) mf md (gMo PG hq), fm 13 (fPr cs hq qr QO QF QA), fm 8 (fPg cs PG)] (fun _ => True) (fun v ps => ∃ (mf' : Nat → Int32), (ps = [wd_Mo cs mo mr (fun _ => none) mf' md (gMo PG hq), fm 13 (fPr cs hq qr QO QF QA), fm 8 (fPg cs PG)]) ∧ ((mf' 2).toInt = (mf 2).toInt) ∧ ((mf' 3).toInt = (mf 3).toInt) ∧ ((mf' 10).toInt = (mf 10).toInt)) := by
  refine px_enter (by decide) (Nat.le_of_ble_eq_true rfl) ?_
  intro p e s m below meth c A ls hAe S hr hlk hnm hA hT hX hw hl
  replace hl : lv_has ls 3 [(0, .ref mo), (1, .int p0), (2, .int p1)] := hl
  have lp0 := Int32.le_toInt p0
  have up0 := Int32.toInt_lt p0
  have lp1 := Int32.le_toInt p1
  have up1 := Int32.toInt_lt p1
  have cst0 : (0 : Int32).toInt = 0 := rfl
  have cst1 : (1 : Int32).toInt = 1 := rfl
  have cst13 : (13 : Int32).toInt = 13 := rfl
  refine lv_aload_n S.x S.b d_Mo_unread_0 rfl (lv_at hl 0 rfl) ?_
  refine lv_iload_n S.x S.b d_Mo_unread_1 rfl (lv_at hl 1 rfl) ?_
  refine lv_iconst (v := 1) S.x S.b d_Mo_unread_2 (by decide) ?_
  refine lv_icmp_lt (tgt := 12) S.x S.b d_Mo_unread_3 (by decide) (fun c1 => ?_) (fun c1 => ?_)
  · have nc1 : p0.toInt < (1 : Int) := (i_lt (x := p0) (y := 1)).mp c1
    refine lv_iconst (v := 1) S.x S.b d_Mo_unread_12 (by decide) ?_
    refine lv_goto (tgt := 17) S.x S.b d_Mo_unread_13 (by decide) ?_
    refine px_calli (pr := []) (px_runV (As := [.int 1]) (rest := []) S (c_mo_refused l D cs mo mr md mf hq qr QO QF QA PG 1  (show 0 ≤ (1 : Int) from by first | decide | omega) (show (1 : Int) ≤ 1 from by first | decide | omega) hpn hpg _) hT (pr := []) (pcs := [wd_Mo cs mo mr (fun _ => none) mf md (gMo PG hq), fm 13 (fPr cs hq qr QO QF QA), fm 8 (fPg cs PG)]) hw px_X.tt (px_recv hT hw 0 0 rfl rfl rfl) m14_184 m14_181 m14_183 ms_17_7 m1_20 q_Mo_refused ⟨Nat.le_of_ble_eq_true rfl, Nat.le_of_ble_eq_true rfl⟩ hl.1 rfl (Nat.le_of_ble_eq_true rfl) d_Mo_unread_17 ⟨Nat.le_of_ble_eq_true rfl, Nat.le_of_ble_eq_true rfl⟩) hw hA (fun v5 p4 H locs hp4 hw => ?_)
    obtain ⟨mf3, rfl, e6, e7, e8, e9, e10⟩ := hp4
    replace e6 : (mf3 2).toInt = (mf 2).toInt := e6
    replace e7 : (mf3 3).toInt = (mf 3).toInt := e7
    replace e8 : (mf3 10).toInt = (mf 10).toInt := e8
    replace e9 : v5.toInt = (1 : Int) := e9
    replace e10 : (mf3 0).toInt = (1 : Int) := e10
    replace hw : pw D A s.heap H locs [wd_Mo cs mo mr (fun _ => none) mf3 md (gMo PG hq), fm 13 (fPr cs hq qr QO QF QA), fm 8 (fPg cs PG)] := hw
    have lv5 := Int32.le_toInt v5
    have uv5 := Int32.toInt_lt v5
    refine lv_if_eq (tgt := 25) S.x S.b d_Mo_unread_20 (by decide) (fun c11 => ?_) (fun c11 => ?_)
    · have nc11 : v5.toInt = (0 : Int) := (i_eq (x := v5) (y := 0)).mp c11
      refine lv_aload_n S.x S.b d_Mo_unread_25 rfl (lv_at hl 0 rfl) ?_
      refine px_get S k_Mo hT hw 0 0 5 (v := .ref (mr 5)) rfl rfl rfl (by decide) m11_83 d_Mo_unread_26 ?_
      refine lv_iload_n S.x S.b d_Mo_unread_29 rfl (lv_at hl 1 rfl) ?_
      refine px_aaldS S hT hw 0 3 10 (n := 13) (f := ((gMo PG hq) 5)) rfl rfl rfl (x := p0) (vp_in_iff.mpr (by constructor <;> omega)) (sk := (hq p0.toNatClampNeg)) rfl d_Mo_unread_30 ?_
      have hw : pw D A s.heap _ _ [wd_Mo cs mo mr (fun _ => none) mf3 md (gMo PG hq), fm 8 (fPg cs PG), fm 13 (fPr cs hq qr QO QF QA)] := hw.sub [0, 2, 1] rfl rfl
      have hc12 := cl_nat (x := p0) (by first | exact oz_016f458179 hc12 | omega)
      have hi12 : p0.toNatClampNeg < 13 := by first | exact oz_62a23ed4d6 hc12 nc1 | omega
      have hw : pw D A s.heap _ _ [wd_Mo cs mo mr (fun _ => none) mf3 md (gMo PG hq), fm 8 (fPg cs PG), fo 13 (fPr cs hq qr QO QF QA) p0.toNatClampNeg, wd_Mpr cs (hq p0.toNatClampNeg) (qr p0.toNatClampNeg) (fun _ => QO p0.toNatClampNeg) (QF p0.toNatClampNeg) (QA p0.toNatClampNeg) (fun _ _ => none)] := fm_out (pr := [wd_Mo cs mo mr (fun _ => none) mf3 md (gMo PG hq), fm 8 (fPg cs PG)]) (T := fPr cs hq qr QO QF QA) hw hi12
      have hpb12 := hpn p0.toNatClampNeg hi12
      unfold PsB at hpb12
      refine px_get S k_Mpr hT hw 3 0 1 (v := .int ((QF p0.toNatClampNeg) 1)) rfl rfl rfl (by decide) m10_224 d_Mo_unread_31 ?_
      refine lv_if_ne (tgt := 41) S.x S.b d_Mo_unread_34 (by decide) (fun c13 => ?_) (fun c13 => ?_)
      · have nc13 : ¬ ((QF p0.toNatClampNeg) 1).toInt = (0 : Int) := mt (i_eq (x := ((QF p0.toNatClampNeg) 1)) (y := 0)).mpr c13
        refine lv_iload_n S.x S.b d_Mo_unread_41 rfl (lv_at hl 2 rfl) ?_
        refine lv_if_eq (tgt := 57) S.x S.b d_Mo_unread_42 (by decide) (fun c14 => ?_) (fun c14 => ?_)
        · have nc14 : p1.toInt = (0 : Int) := (i_eq (x := p1) (y := 0)).mp c14
          refine lv_aload_n S.x S.b d_Mo_unread_57 rfl (lv_at hl 0 rfl) ?_
          refine px_get S k_Mo hT hw 0 0 5 (v := .ref (mr 5)) rfl rfl rfl (by decide) m11_83 d_Mo_unread_58 ?_
          refine lv_iload_n S.x S.b d_Mo_unread_61 rfl (lv_at hl 1 rfl) ?_
          refine px_aaldS S hT hw 0 3 10 (n := 13) (f := ((gMo PG hq) 5)) rfl rfl rfl (x := p0) (vp_in_iff.mpr (by first | exact oz_5602c1b1f7 hc12 nc1 | (constructor <;> omega))) (sk := (hq p0.toNatClampNeg)) rfl d_Mo_unread_62 ?_
          refine px_get S k_Mpr hT hw 3 0 23 (v := .int ((QF p0.toNatClampNeg) 23)) rfl rfl rfl (by decide) m11_20 d_Mo_unread_63 ?_
          have hw : pw D A s.heap _ _ [wd_Mo cs mo mr (fun _ => none) mf3 md (gMo PG hq), fm 8 (fPg cs PG), fm 13 (fPr cs hq qr QO QF QA)] := fm_back (pr := [wd_Mo cs mo mr (fun _ => none) mf3 md (gMo PG hq), fm 8 (fPg cs PG)]) (T := fPr cs hq qr QO QF QA) hw hi12
          have hw : pw D A s.heap _ _ [wd_Mo cs mo mr (fun _ => none) mf3 md (gMo PG hq), fm 13 (fPr cs hq qr QO QF QA), fm 8 (fPg cs PG)] := hw.sub [0, 2, 1] rfl rfl
          exact px_iret (v := ((QF p0.toNatClampNeg) 23)) S hr rfl hlk hAe hw (Nat.le_of_ble_eq_true rfl) (Nat.le_of_ble_eq_true rfl) (⟨mf3, rfl, (show (mf3 2).toInt = (mf 2).toInt from by first | exact e6 | omega), (show (mf3 3).toInt = (mf 3).toInt from by first | exact e7 | omega), (show (mf3 10).toInt = (mf 10).toInt from by first | exact e8 | omega)⟩) d_Mo_unread_66
        · have nc14 : ¬ p1.toInt = (0 : Int) := mt (i_eq (x := p1) (y := 0)).mpr c14
          refine lv_aload_n S.x S.b d_Mo_unread_45 rfl (lv_at hl 0 rfl) ?_
          refine px_get S k_Mo hT hw 0 0 5 (v := .ref (mr 5)) rfl rfl rfl (by decide) m11_83 d_Mo_unread_46 ?_
          refine lv_iload_n S.x S.b d_Mo_unread_49 rfl (lv_at hl 1 rfl) ?_
          refine px_aaldS S hT hw 0 3 10 (n := 13) (f := ((gMo PG hq) 5)) rfl rfl rfl (x := p0) (vp_in_iff.mpr (by first | exact oz_5602c1b1f7 hc12 nc1 | (constructor <;> omega))) (sk := (hq p0.toNatClampNeg)) rfl d_Mo_unread_50 ?_
          refine px_get S k_Mpr hT hw 3 0 21 (v := .int ((QF p0.toNatClampNeg) 21)) rfl rfl rfl (by decide) m11_16 d_Mo_unread_51 ?_
          refine lv_goto (tgt := 66) S.x S.b d_Mo_unread_54 (by decide) ?_
          have hw : pw D A s.heap _ _ [wd_Mo cs mo mr (fun _ => none) mf3 md (gMo PG hq), fm 8 (fPg cs PG), fm 13 (fPr cs hq qr QO QF QA)] := fm_back (pr := [wd_Mo cs mo mr (fun _ => none) mf3 md (gMo PG hq), fm 8 (fPg cs PG)]) (T := fPr cs hq qr QO QF QA) hw hi12
          have hw : pw D A s.heap _ _ [wd_Mo cs mo mr (fun _ => none) mf3 md (gMo PG hq), fm 13 (fPr cs hq qr QO QF QA), fm 8 (fPg cs PG)] := hw.sub [0, 2, 1] rfl rfl
          exact px_iret (v := ((QF p0.toNatClampNeg) 21)) S hr rfl hlk hAe hw (Nat.le_of_ble_eq_true rfl) (Nat.le_of_ble_eq_true rfl) (⟨mf3, rfl, (show (mf3 2).toInt = (mf 2).toInt from by first | exact e6 | omega), (show (mf3 3).toInt = (mf 3).toInt from by first | exact e7 | omega), (show (mf3 10).toInt = (mf 10).toInt from by first | exact e8 | omega)⟩) d_Mo_unread_66
      · have nc13 : ((QF p0.toNatClampNeg) 1).toInt = (0 : Int) := (i_eq (x := ((QF p0.toNatClampNeg) 1)) (y := 0)).mp c13
        refine lv_iconst (v := 0) S.x S.b d_Mo_unread_37 (by decide) ?_
        refine lv_goto (tgt := 66) S.x S.b d_Mo_unread_38 (by decide) ?_
        have hw : pw D A s.heap _ _ [wd_Mo cs mo mr (fun _ => none) mf3 md (gMo PG hq), fm 8 (fPg cs PG), fm 13 (fPr cs hq qr QO QF QA)] := fm_back (pr := [wd_Mo cs mo mr (fun _ => none) mf3 md (gMo PG hq), fm 8 (fPg cs PG)]) (T := fPr cs hq qr QO QF QA) hw hi12
        have hw : pw D A s.heap _ _ [wd_Mo cs mo mr (fun _ => none) mf3 md (gMo PG hq), fm 13 (fPr cs hq qr QO QF QA), fm 8 (fPg cs PG)] := hw.sub [0, 2, 1] rfl rfl
        exact px_iret (v := 0) S hr rfl hlk hAe hw (Nat.le_of_ble_eq_true rfl) (Nat.le_of_ble_eq_true rfl) (⟨mf3, rfl, (show (mf3 2).toInt = (mf 2).toInt from by first | exact e6 | omega), (show (mf3 3).toInt = (mf 3).toInt from by first | exact e7 | omega), (show (mf3 10).toInt = (mf 10).toInt from by first | exact e8 | omega)⟩) d_Mo_unread_66
    · have nc11 : ¬ v5.toInt = (0 : Int) := mt (i_eq (x := v5) (y := 0)).mpr c11
      refine lv_iconst (v := 0) S.x S.b d_Mo_unread_23 (by decide) ?_
      exact px_iret (v := 0) S hr rfl hlk hAe hw (Nat.le_of_ble_eq_true rfl) (Nat.le_of_ble_eq_true rfl) (⟨mf3, rfl, (show (mf3 2).toInt = (mf 2).toInt from by first | exact e6 | omega), (show (mf3 3).toInt = (mf 3).toInt from by first | exact e7 | omega), (show (mf3 10).toInt = (mf 10).toInt from by first | exact e8 | omega)⟩) d_Mo_unread_24
  · have nc1 : ¬ p0.toInt < (1 : Int) := mt (i_lt (x := p0) (y := 1)).mpr c1
    refine lv_iload_n S.x S.b d_Mo_unread_6 rfl (lv_at hl 1 rfl) ?_
    refine lv_bipush (v := 13) S.x S.b d_Mo_unread_7 (by decide) ?_
    refine lv_icmp_lt (tgt := 16) S.x S.b d_Mo_unread_9 (by decide) (fun c15 => ?_) (fun c15 => ?_)
    · have nc15 : p0.toInt < (13 : Int) := (i_lt (x := p0) (y := 13)).mp c15
      refine lv_iconst (v := 0) S.x S.b d_Mo_unread_16 (by decide) ?_
      refine px_calli (pr := []) (px_runV (As := [.int 0]) (rest := []) S (c_mo_refused l D cs mo mr md mf hq qr QO QF QA PG 0  (show 0 ≤ (0 : Int) from by first | decide | omega) (show (0 : Int) ≤ 1 from by first | decide | omega) hpn hpg _) hT (pr := []) (pcs := [wd_Mo cs mo mr (fun _ => none) mf md (gMo PG hq), fm 13 (fPr cs hq qr QO QF QA), fm 8 (fPg cs PG)]) hw px_X.tt (px_recv hT hw 0 0 rfl rfl rfl) m14_184 m14_181 m14_183 ms_17_7 m1_20 q_Mo_refused ⟨Nat.le_of_ble_eq_true rfl, Nat.le_of_ble_eq_true rfl⟩ hl.1 rfl (Nat.le_of_ble_eq_true rfl) d_Mo_unread_17 ⟨Nat.le_of_ble_eq_true rfl, Nat.le_of_ble_eq_true rfl⟩) hw hA (fun v19 p18 H locs hp18 hw => ?_)
      obtain ⟨mf17, rfl, e20, e21, e22, e23, e24⟩ := hp18
      replace e20 : (mf17 2).toInt = (mf 2).toInt := e20
      replace e21 : (mf17 3).toInt = (mf 3).toInt := e21
      replace e22 : (mf17 10).toInt = (mf 10).toInt := e22
      replace e23 : v19.toInt = (0 : Int) := e23
      replace e24 : (mf17 0).toInt = (0 : Int) := e24
      replace hw : pw D A s.heap H locs [wd_Mo cs mo mr (fun _ => none) mf17 md (gMo PG hq), fm 13 (fPr cs hq qr QO QF QA), fm 8 (fPg cs PG)] := hw
      have lv19 := Int32.le_toInt v19
      have uv19 := Int32.toInt_lt v19
      refine lv_if_eq (tgt := 25) S.x S.b d_Mo_unread_20 (by decide) (fun c25 => ?_) (fun c25 => ?_)
      · have nc25 : v19.toInt = (0 : Int) := (i_eq (x := v19) (y := 0)).mp c25
        refine lv_aload_n S.x S.b d_Mo_unread_25 rfl (lv_at hl 0 rfl) ?_
        refine px_get S k_Mo hT hw 0 0 5 (v := .ref (mr 5)) rfl rfl rfl (by decide) m11_83 d_Mo_unread_26 ?_
        refine lv_iload_n S.x S.b d_Mo_unread_29 rfl (lv_at hl 1 rfl) ?_
        refine px_aaldS S hT hw 0 3 10 (n := 13) (f := ((gMo PG hq) 5)) rfl rfl rfl (x := p0) (vp_in_iff.mpr (by first | exact oz_63f4c236b1 nc1 nc15 | (constructor <;> omega))) (sk := (hq p0.toNatClampNeg)) rfl d_Mo_unread_30 ?_
        have hw : pw D A s.heap _ _ [wd_Mo cs mo mr (fun _ => none) mf17 md (gMo PG hq), fm 8 (fPg cs PG), fm 13 (fPr cs hq qr QO QF QA)] := hw.sub [0, 2, 1] rfl rfl
        have hc26 := cl_nat (x := p0) (by first | exact oz_0184fb6be8 nc1 | omega)
        have hi26 : p0.toNatClampNeg < 13 := by first | exact oz_493f3b5f7b hc26 nc15 | omega
        have hw : pw D A s.heap _ _ [wd_Mo cs mo mr (fun _ => none) mf17 md (gMo PG hq), fm 8 (fPg cs PG), fo 13 (fPr cs hq qr QO QF QA) p0.toNatClampNeg, wd_Mpr cs (hq p0.toNatClampNeg) (qr p0.toNatClampNeg) (fun _ => QO p0.toNatClampNeg) (QF p0.toNatClampNeg) (QA p0.toNatClampNeg) (fun _ _ => none)] := fm_out (pr := [wd_Mo cs mo mr (fun _ => none) mf17 md (gMo PG hq), fm 8 (fPg cs PG)]) (T := fPr cs hq qr QO QF QA) hw hi26
        have hpb26 := hpn p0.toNatClampNeg hi26
        unfold PsB at hpb26
        refine px_get S k_Mpr hT hw 3 0 1 (v := .int ((QF p0.toNatClampNeg) 1)) rfl rfl rfl (by decide) m10_224 d_Mo_unread_31 ?_
        refine lv_if_ne (tgt := 41) S.x S.b d_Mo_unread_34 (by decide) (fun c27 => ?_) (fun c27 => ?_)
        · have nc27 : ¬ ((QF p0.toNatClampNeg) 1).toInt = (0 : Int) := mt (i_eq (x := ((QF p0.toNatClampNeg) 1)) (y := 0)).mpr c27
          refine lv_iload_n S.x S.b d_Mo_unread_41 rfl (lv_at hl 2 rfl) ?_
          refine lv_if_eq (tgt := 57) S.x S.b d_Mo_unread_42 (by decide) (fun c28 => ?_) (fun c28 => ?_)
          · have nc28 : p1.toInt = (0 : Int) := (i_eq (x := p1) (y := 0)).mp c28
            refine lv_aload_n S.x S.b d_Mo_unread_57 rfl (lv_at hl 0 rfl) ?_
            refine px_get S k_Mo hT hw 0 0 5 (v := .ref (mr 5)) rfl rfl rfl (by decide) m11_83 d_Mo_unread_58 ?_
            refine lv_iload_n S.x S.b d_Mo_unread_61 rfl (lv_at hl 1 rfl) ?_
            refine px_aaldS S hT hw 0 3 10 (n := 13) (f := ((gMo PG hq) 5)) rfl rfl rfl (x := p0) (vp_in_iff.mpr (by first | exact oz_63f4c236b1 nc1 nc15 | (constructor <;> omega))) (sk := (hq p0.toNatClampNeg)) rfl d_Mo_unread_62 ?_
            refine px_get S k_Mpr hT hw 3 0 23 (v := .int ((QF p0.toNatClampNeg) 23)) rfl rfl rfl (by decide) m11_20 d_Mo_unread_63 ?_
            have hw : pw D A s.heap _ _ [wd_Mo cs mo mr (fun _ => none) mf17 md (gMo PG hq), fm 8 (fPg cs PG), fm 13 (fPr cs hq qr QO QF QA)] := fm_back (pr := [wd_Mo cs mo mr (fun _ => none) mf17 md (gMo PG hq), fm 8 (fPg cs PG)]) (T := fPr cs hq qr QO QF QA) hw hi26
            have hw : pw D A s.heap _ _ [wd_Mo cs mo mr (fun _ => none) mf17 md (gMo PG hq), fm 13 (fPr cs hq qr QO QF QA), fm 8 (fPg cs PG)] := hw.sub [0, 2, 1] rfl rfl
            exact px_iret (v := ((QF p0.toNatClampNeg) 23)) S hr rfl hlk hAe hw (Nat.le_of_ble_eq_true rfl) (Nat.le_of_ble_eq_true rfl) (⟨mf17, rfl, (show (mf17 2).toInt = (mf 2).toInt from by first | exact e20 | omega), (show (mf17 3).toInt = (mf 3).toInt from by first | exact e21 | omega), (show (mf17 10).toInt = (mf 10).toInt from by first | exact e22 | omega)⟩) d_Mo_unread_66
          · have nc28 : ¬ p1.toInt = (0 : Int) := mt (i_eq (x := p1) (y := 0)).mpr c28
            refine lv_aload_n S.x S.b d_Mo_unread_45 rfl (lv_at hl 0 rfl) ?_
            refine px_get S k_Mo hT hw 0 0 5 (v := .ref (mr 5)) rfl rfl rfl (by decide) m11_83 d_Mo_unread_46 ?_
            refine lv_iload_n S.x S.b d_Mo_unread_49 rfl (lv_at hl 1 rfl) ?_
            refine px_aaldS S hT hw 0 3 10 (n := 13) (f := ((gMo PG hq) 5)) rfl rfl rfl (x := p0) (vp_in_iff.mpr (by first | exact oz_63f4c236b1 nc1 nc15 | (constructor <;> omega))) (sk := (hq p0.toNatClampNeg)) rfl d_Mo_unread_50 ?_
            refine px_get S k_Mpr hT hw 3 0 21 (v := .int ((QF p0.toNatClampNeg) 21)) rfl rfl rfl (by decide) m11_16 d_Mo_unread_51 ?_
            refine lv_goto (tgt := 66) S.x S.b d_Mo_unread_54 (by decide) ?_
            have hw : pw D A s.heap _ _ [wd_Mo cs mo mr (fun _ => none) mf17 md (gMo PG hq), fm 8 (fPg cs PG), fm 13 (fPr cs hq qr QO QF QA)] := fm_back (pr := [wd_Mo cs mo mr (fun _ => none) mf17 md (gMo PG hq), fm 8 (fPg cs PG)]) (T := fPr cs hq qr QO QF QA) hw hi26
            have hw : pw D A s.heap _ _ [wd_Mo cs mo mr (fun _ => none) mf17 md (gMo PG hq), fm 13 (fPr cs hq qr QO QF QA), fm 8 (fPg cs PG)] := hw.sub [0, 2, 1] rfl rfl
            exact px_iret (v := ((QF p0.toNatClampNeg) 21)) S hr rfl hlk hAe hw (Nat.le_of_ble_eq_true rfl) (Nat.le_of_ble_eq_true rfl) (⟨mf17, rfl, (show (mf17 2).toInt = (mf 2).toInt from by first | exact e20 | omega), (show (mf17 3).toInt = (mf 3).toInt from by first | exact e21 | omega), (show (mf17 10).toInt = (mf 10).toInt from by first | exact e22 | omega)⟩) d_Mo_unread_66
        · have nc27 : ((QF p0.toNatClampNeg) 1).toInt = (0 : Int) := (i_eq (x := ((QF p0.toNatClampNeg) 1)) (y := 0)).mp c27
          refine lv_iconst (v := 0) S.x S.b d_Mo_unread_37 (by decide) ?_
          refine lv_goto (tgt := 66) S.x S.b d_Mo_unread_38 (by decide) ?_
          have hw : pw D A s.heap _ _ [wd_Mo cs mo mr (fun _ => none) mf17 md (gMo PG hq), fm 8 (fPg cs PG), fm 13 (fPr cs hq qr QO QF QA)] := fm_back (pr := [wd_Mo cs mo mr (fun _ => none) mf17 md (gMo PG hq), fm 8 (fPg cs PG)]) (T := fPr cs hq qr QO QF QA) hw hi26
          have hw : pw D A s.heap _ _ [wd_Mo cs mo mr (fun _ => none) mf17 md (gMo PG hq), fm 13 (fPr cs hq qr QO QF QA), fm 8 (fPg cs PG)] := hw.sub [0, 2, 1] rfl rfl
          exact px_iret (v := 0) S hr rfl hlk hAe hw (Nat.le_of_ble_eq_true rfl) (Nat.le_of_ble_eq_true rfl) (⟨mf17, rfl, (show (mf17 2).toInt = (mf 2).toInt from by first | exact e20 | omega), (show (mf17 3).toInt = (mf 3).toInt from by first | exact e21 | omega), (show (mf17 10).toInt = (mf 10).toInt from by first | exact e22 | omega)⟩) d_Mo_unread_66
      · have nc25 : ¬ v19.toInt = (0 : Int) := mt (i_eq (x := v19) (y := 0)).mpr c25
        refine lv_iconst (v := 0) S.x S.b d_Mo_unread_23 (by decide) ?_
        exact px_iret (v := 0) S hr rfl hlk hAe hw (Nat.le_of_ble_eq_true rfl) (Nat.le_of_ble_eq_true rfl) (⟨mf17, rfl, (show (mf17 2).toInt = (mf 2).toInt from by first | exact e20 | omega), (show (mf17 3).toInt = (mf 3).toInt from by first | exact e21 | omega), (show (mf17 10).toInt = (mf 10).toInt from by first | exact e22 | omega)⟩) d_Mo_unread_24
    · have nc15 : ¬ p0.toInt < (13 : Int) := mt (i_lt (x := p0) (y := 13)).mpr c15
      refine lv_iconst (v := 1) S.x S.b d_Mo_unread_12 (by decide) ?_
      refine lv_goto (tgt := 17) S.x S.b d_Mo_unread_13 (by decide) ?_
      refine px_calli (pr := []) (px_runV (As := [.int 1]) (rest := []) S (c_mo_refused l D cs mo mr md mf hq qr QO QF QA PG 1  (show 0 ≤ (1 : Int) from by first | decide | omega) (show (1 : Int) ≤ 1 from by first | decide | omega) hpn hpg _) hT (pr := []) (pcs := [wd_Mo cs mo mr (fun _ => none) mf md (gMo PG hq), fm 13 (fPr cs hq qr QO QF QA), fm 8 (fPg cs PG)]) hw px_X.tt (px_recv hT hw 0 0 rfl rfl rfl) m14_184 m14_181 m14_183 ms_17_7 m1_20 q_Mo_refused ⟨Nat.le_of_ble_eq_true rfl, Nat.le_of_ble_eq_true rfl⟩ hl.1 rfl (Nat.le_of_ble_eq_true rfl) d_Mo_unread_17 ⟨Nat.le_of_ble_eq_true rfl, Nat.le_of_ble_eq_true rfl⟩) hw hA (fun v32 p31 H locs hp31 hw => ?_)
      obtain ⟨mf30, rfl, e33, e34, e35, e36, e37⟩ := hp31
      replace e33 : (mf30 2).toInt = (mf 2).toInt := e33
      replace e34 : (mf30 3).toInt = (mf 3).toInt := e34
      replace e35 : (mf30 10).toInt = (mf 10).toInt := e35
      replace e36 : v32.toInt = (1 : Int) := e36
      replace e37 : (mf30 0).toInt = (1 : Int) := e37
      replace hw : pw D A s.heap H locs [wd_Mo cs mo mr (fun _ => none) mf30 md (gMo PG hq), fm 13 (fPr cs hq qr QO QF QA), fm 8 (fPg cs PG)] := hw
      have lv32 := Int32.le_toInt v32
      have uv32 := Int32.toInt_lt v32
      refine lv_if_eq (tgt := 25) S.x S.b d_Mo_unread_20 (by decide) (fun c38 => ?_) (fun c38 => ?_)
      · have nc38 : v32.toInt = (0 : Int) := (i_eq (x := v32) (y := 0)).mp c38
        refine lv_aload_n S.x S.b d_Mo_unread_25 rfl (lv_at hl 0 rfl) ?_
        refine px_get S k_Mo hT hw 0 0 5 (v := .ref (mr 5)) rfl rfl rfl (by decide) m11_83 d_Mo_unread_26 ?_
        refine lv_iload_n S.x S.b d_Mo_unread_29 rfl (lv_at hl 1 rfl) ?_
        refine px_aaldS S hT hw 0 3 10 (n := 13) (f := ((gMo PG hq) 5)) rfl rfl rfl (x := p0) (vp_in_iff.mpr (by constructor <;> omega)) (sk := (hq p0.toNatClampNeg)) rfl d_Mo_unread_30 ?_
        have hw : pw D A s.heap _ _ [wd_Mo cs mo mr (fun _ => none) mf30 md (gMo PG hq), fm 8 (fPg cs PG), fm 13 (fPr cs hq qr QO QF QA)] := hw.sub [0, 2, 1] rfl rfl
        have hc39 := cl_nat (x := p0) (by first | exact oz_2ead38c026 nc15 | omega)
        have hi39 : p0.toNatClampNeg < 13 := by omega
        have hw : pw D A s.heap _ _ [wd_Mo cs mo mr (fun _ => none) mf30 md (gMo PG hq), fm 8 (fPg cs PG), fo 13 (fPr cs hq qr QO QF QA) p0.toNatClampNeg, wd_Mpr cs (hq p0.toNatClampNeg) (qr p0.toNatClampNeg) (fun _ => QO p0.toNatClampNeg) (QF p0.toNatClampNeg) (QA p0.toNatClampNeg) (fun _ _ => none)] := fm_out (pr := [wd_Mo cs mo mr (fun _ => none) mf30 md (gMo PG hq), fm 8 (fPg cs PG)]) (T := fPr cs hq qr QO QF QA) hw hi39
        have hpb39 := hpn p0.toNatClampNeg hi39
        unfold PsB at hpb39
        refine px_get S k_Mpr hT hw 3 0 1 (v := .int ((QF p0.toNatClampNeg) 1)) rfl rfl rfl (by decide) m10_224 d_Mo_unread_31 ?_
        refine lv_if_ne (tgt := 41) S.x S.b d_Mo_unread_34 (by decide) (fun c40 => ?_) (fun c40 => ?_)
        · have nc40 : ¬ ((QF p0.toNatClampNeg) 1).toInt = (0 : Int) := mt (i_eq (x := ((QF p0.toNatClampNeg) 1)) (y := 0)).mpr c40
          refine lv_iload_n S.x S.b d_Mo_unread_41 rfl (lv_at hl 2 rfl) ?_
          refine lv_if_eq (tgt := 57) S.x S.b d_Mo_unread_42 (by decide) (fun c41 => ?_) (fun c41 => ?_)
          · have nc41 : p1.toInt = (0 : Int) := (i_eq (x := p1) (y := 0)).mp c41
            refine lv_aload_n S.x S.b d_Mo_unread_57 rfl (lv_at hl 0 rfl) ?_
            refine px_get S k_Mo hT hw 0 0 5 (v := .ref (mr 5)) rfl rfl rfl (by decide) m11_83 d_Mo_unread_58 ?_
            refine lv_iload_n S.x S.b d_Mo_unread_61 rfl (lv_at hl 1 rfl) ?_
            refine px_aaldS S hT hw 0 3 10 (n := 13) (f := ((gMo PG hq) 5)) rfl rfl rfl (x := p0) (vp_in_iff.mpr (by first | exact oz_41c7eadd92 nc15 hc39 hi39 | (constructor <;> omega))) (sk := (hq p0.toNatClampNeg)) rfl d_Mo_unread_62 ?_
            refine px_get S k_Mpr hT hw 3 0 23 (v := .int ((QF p0.toNatClampNeg) 23)) rfl rfl rfl (by decide) m11_20 d_Mo_unread_63 ?_
            have hw : pw D A s.heap _ _ [wd_Mo cs mo mr (fun _ => none) mf30 md (gMo PG hq), fm 8 (fPg cs PG), fm 13 (fPr cs hq qr QO QF QA)] := fm_back (pr := [wd_Mo cs mo mr (fun _ => none) mf30 md (gMo PG hq), fm 8 (fPg cs PG)]) (T := fPr cs hq qr QO QF QA) hw hi39
            have hw : pw D A s.heap _ _ [wd_Mo cs mo mr (fun _ => none) mf30 md (gMo PG hq), fm 13 (fPr cs hq qr QO QF QA), fm 8 (fPg cs PG)] := hw.sub [0, 2, 1] rfl rfl
            exact px_iret (v := ((QF p0.toNatClampNeg) 23)) S hr rfl hlk hAe hw (Nat.le_of_ble_eq_true rfl) (Nat.le_of_ble_eq_true rfl) (⟨mf30, rfl, (show (mf30 2).toInt = (mf 2).toInt from by first | exact e33 | omega), (show (mf30 3).toInt = (mf 3).toInt from by first | exact e34 | omega), (show (mf30 10).toInt = (mf 10).toInt from by first | exact e35 | omega)⟩) d_Mo_unread_66
          · have nc41 : ¬ p1.toInt = (0 : Int) := mt (i_eq (x := p1) (y := 0)).mpr c41
            refine lv_aload_n S.x S.b d_Mo_unread_45 rfl (lv_at hl 0 rfl) ?_
            refine px_get S k_Mo hT hw 0 0 5 (v := .ref (mr 5)) rfl rfl rfl (by decide) m11_83 d_Mo_unread_46 ?_
            refine lv_iload_n S.x S.b d_Mo_unread_49 rfl (lv_at hl 1 rfl) ?_
            refine px_aaldS S hT hw 0 3 10 (n := 13) (f := ((gMo PG hq) 5)) rfl rfl rfl (x := p0) (vp_in_iff.mpr (by first | exact oz_41c7eadd92 nc15 hc39 hi39 | (constructor <;> omega))) (sk := (hq p0.toNatClampNeg)) rfl d_Mo_unread_50 ?_
            refine px_get S k_Mpr hT hw 3 0 21 (v := .int ((QF p0.toNatClampNeg) 21)) rfl rfl rfl (by decide) m11_16 d_Mo_unread_51 ?_
            refine lv_goto (tgt := 66) S.x S.b d_Mo_unread_54 (by decide) ?_
            have hw : pw D A s.heap _ _ [wd_Mo cs mo mr (fun _ => none) mf30 md (gMo PG hq), fm 8 (fPg cs PG), fm 13 (fPr cs hq qr QO QF QA)] := fm_back (pr := [wd_Mo cs mo mr (fun _ => none) mf30 md (gMo PG hq), fm 8 (fPg cs PG)]) (T := fPr cs hq qr QO QF QA) hw hi39
            have hw : pw D A s.heap _ _ [wd_Mo cs mo mr (fun _ => none) mf30 md (gMo PG hq), fm 13 (fPr cs hq qr QO QF QA), fm 8 (fPg cs PG)] := hw.sub [0, 2, 1] rfl rfl
            exact px_iret (v := ((QF p0.toNatClampNeg) 21)) S hr rfl hlk hAe hw (Nat.le_of_ble_eq_true rfl) (Nat.le_of_ble_eq_true rfl) (⟨mf30, rfl, (show (mf30 2).toInt = (mf 2).toInt from by first | exact e33 | omega), (show (mf30 3).toInt = (mf 3).toInt from by first | exact e34 | omega), (show (mf30 10).toInt = (mf 10).toInt from by first | exact e35 | omega)⟩) d_Mo_unread_66
        · have nc40 : ((QF p0.toNatClampNeg) 1).toInt = (0 : Int) := (i_eq (x := ((QF p0.toNatClampNeg) 1)) (y := 0)).mp c40
          refine lv_iconst (v := 0) S.x S.b d_Mo_unread_37 (by decide) ?_
          refine lv_goto (tgt := 66) S.x S.b d_Mo_unread_38 (by decide) ?_
          have hw : pw D A s.heap _ _ [wd_Mo cs mo mr (fun _ => none) mf30 md (gMo PG hq), fm 8 (fPg cs PG), fm 13 (fPr cs hq qr QO QF QA)] := fm_back (pr := [wd_Mo cs mo mr (fun _ => none) mf30 md (gMo PG hq), fm 8 (fPg cs PG)]) (T := fPr cs hq qr QO QF QA) hw hi39
          have hw : pw D A s.heap _ _ [wd_Mo cs mo mr (fun _ => none) mf30 md (gMo PG hq), fm 13 (fPr cs hq qr QO QF QA), fm 8 (fPg cs PG)] := hw.sub [0, 2, 1] rfl rfl
          exact px_iret (v := 0) S hr rfl hlk hAe hw (Nat.le_of_ble_eq_true rfl) (Nat.le_of_ble_eq_true rfl) (⟨mf30, rfl, (show (mf30 2).toInt = (mf 2).toInt from by first | exact e33 | omega), (show (mf30 3).toInt = (mf 3).toInt from by first | exact e34 | omega), (show (mf30 10).toInt = (mf 10).toInt from by first | exact e35 | omega)⟩) d_Mo_unread_66
      · have nc38 : ¬ v32.toInt = (0 : Int) := mt (i_eq (x := v32) (y := 0)).mpr c38
        refine lv_iconst (v := 0) S.x S.b d_Mo_unread_23 (by decide) ?_
        exact px_iret (v := 0) S hr rfl hlk hAe hw (Nat.le_of_ble_eq_true rfl) (Nat.le_of_ble_eq_true rfl) (⟨mf30, rfl, (show (mf30 2).toInt = (mf 2).toInt from by first | exact e33 | omega), (show (mf30 3).toInt = (mf 3).toInt from by first | exact e34 | omega), (show (mf30 10).toInt = (mf 10).toInt from by first | exact e35 | omega)⟩) d_Mo_unread_24
abbrev b_Mo_disk : ByteArray := prog_14_method_36_code
def y_Mo_disk : MethodName := ⟨"HomeSystemModel", "disk", "(I)I"⟩
theorem d_Mo_disk_0 : decode b_Mo_disk 0 = .ok (.aload_n 0, 1) := by decide +kernel
theorem d_Mo_disk_1 : decode b_Mo_disk 1 = .ok (.iload_n 1, 1) := by decide +kernel
theorem d_Mo_disk_2 : decode b_Mo_disk 2 = .ok (.ifCond .lt 9, 3) := by decide +kernel
theorem d_Mo_disk_5 : decode b_Mo_disk 5 = .ok (.iload_n 1, 1) := by decide +kernel
theorem d_Mo_disk_6 : decode b_Mo_disk 6 = .ok (.bipush 127, 2) := by decide +kernel
theorem d_Mo_disk_8 : decode b_Mo_disk 8 = .ok (.if_icmp .le 7, 3) := by decide +kernel
theorem d_Mo_disk_11 : decode b_Mo_disk 11 = .ok (.iconst 1, 1) := by decide +kernel
theorem d_Mo_disk_12 : decode b_Mo_disk 12 = .ok (.goto 4, 3) := by decide +kernel
theorem d_Mo_disk_15 : decode b_Mo_disk 15 = .ok (.iconst 0, 1) := by decide +kernel
theorem d_Mo_disk_16 : decode b_Mo_disk 16 = .ok (.invokevirtual 236, 3) := by decide +kernel
theorem d_Mo_disk_19 : decode b_Mo_disk 19 = .ok (.ifCond .eq 7, 3) := by decide +kernel
theorem d_Mo_disk_22 : decode b_Mo_disk 22 = .ok (.iconst 0, 1) := by decide +kernel
theorem d_Mo_disk_23 : decode b_Mo_disk 23 = .ok (.goto 9, 3) := by decide +kernel
theorem d_Mo_disk_26 : decode b_Mo_disk 26 = .ok (.aload_n 0, 1) := by decide +kernel
theorem d_Mo_disk_27 : decode b_Mo_disk 27 = .ok (.getfield 25, 3) := by decide +kernel
theorem d_Mo_disk_30 : decode b_Mo_disk 30 = .ok (.iload_n 1, 1) := by decide +kernel
theorem d_Mo_disk_31 : decode b_Mo_disk 31 = .ok (.iaload, 1) := by decide +kernel
theorem d_Mo_disk_32 : decode b_Mo_disk 32 = .ok (.ireturn, 1) := by decide +kernel
theorem q_Mo_disk : px_y y_Mo_disk 1 := by unfold px_y; decide +kernel
set_option maxHeartbeats 4000000 in
set_option maxRecDepth 100000 in
theorem c_mo_disk (l : Launch) (D : va_G) (cs : Nat → ClassId) (mo : Nat) (mr : Nat → Nat) (md : Nat → Nat → Int32) (mf : Nat → Int32) (hq : Nat → Nat) (qr : Nat → Nat → Nat) (QO : Nat → Option Nat) (QF : Nat → Nat → Int32) (QA : Nat → Nat → Nat → Int32) (PG : Nat → Pgs) (p0 : Int32)  (hpn : PrN QF) (hpg : PgA PG) : MetI l y_Mo_disk b_Mo_disk 2 (.int) D cs 1 40 (0) (0) [.ref mo, .int p0] [wd_Mo cs mo mr (fun _ => none) mf md (gMo PG hq), fm 13 (fPr cs hq qr QO QF QA), fm 8 (fPg cs PG)] (fun _ => True) (fun v ps => ∃ (mf' : Nat → Int32), (ps = [wd_Mo cs mo mr (fun _ => none) mf' md (gMo PG hq), fm 13 (fPr cs hq qr QO QF QA), fm 8 (fPg cs PG)]) ∧ ((mf' 2).toInt = (mf 2).toInt) ∧ ((mf' 3).toInt = (mf 3).toInt) ∧ ((mf' 10).toInt = (mf 10).toInt)) := by
  refine px_enter (by decide) (Nat.le_of_ble_eq_true rfl) ?_
  intro p e s m below meth c A ls hAe S hr hlk hnm hA hT hX hw hl
  replace hl : lv_has ls 2 [(0, .ref mo), (1, .int p0)] := hl
  have lp0 := Int32.le_toInt p0
  have up0 := Int32.toInt_lt p0
  have cst0 : (0 : Int32).toInt = 0 := rfl
  have cst1 : (1 : Int32).toInt = 1 := rfl
  have cst127 : (127 : Int32).toInt = 127 := rfl
  refine lv_aload_n S.x S.b d_Mo_disk_0 rfl (lv_at hl 0 rfl) ?_
  refine lv_iload_n S.x S.b d_Mo_disk_1 rfl (lv_at hl 1 rfl) ?_
  refine lv_if_lt (tgt := 11) S.x S.b d_Mo_disk_2 (by decide) (fun c1 => ?_) (fun c1 => ?_)
  · have nc1 : p0.toInt < (0 : Int) := (i_lt (x := p0) (y := 0)).mp c1
    refine lv_iconst (v := 1) S.x S.b d_Mo_disk_11 (by decide) ?_
    refine lv_goto (tgt := 16) S.x S.b d_Mo_disk_12 (by decide) ?_
    refine px_calli (pr := []) (px_runV (As := [.int 1]) (rest := []) S (c_mo_refused l D cs mo mr md mf hq qr QO QF QA PG 1  (show 0 ≤ (1 : Int) from by first | decide | omega) (show (1 : Int) ≤ 1 from by first | decide | omega) hpn hpg _) hT (pr := []) (pcs := [wd_Mo cs mo mr (fun _ => none) mf md (gMo PG hq), fm 13 (fPr cs hq qr QO QF QA), fm 8 (fPg cs PG)]) hw px_X.tt (px_recv hT hw 0 0 rfl rfl rfl) m14_184 m14_181 m14_183 ms_17_7 m1_20 q_Mo_refused ⟨Nat.le_of_ble_eq_true rfl, Nat.le_of_ble_eq_true rfl⟩ hl.1 rfl (Nat.le_of_ble_eq_true rfl) d_Mo_disk_16 ⟨Nat.le_of_ble_eq_true rfl, Nat.le_of_ble_eq_true rfl⟩) hw hA (fun v5 p4 H locs hp4 hw => ?_)
    obtain ⟨mf3, rfl, e6, e7, e8, e9, e10⟩ := hp4
    replace e6 : (mf3 2).toInt = (mf 2).toInt := e6
    replace e7 : (mf3 3).toInt = (mf 3).toInt := e7
    replace e8 : (mf3 10).toInt = (mf 10).toInt := e8
    replace e9 : v5.toInt = (1 : Int) := e9
    replace e10 : (mf3 0).toInt = (1 : Int) := e10
    replace hw : pw D A s.heap H locs [wd_Mo cs mo mr (fun _ => none) mf3 md (gMo PG hq), fm 13 (fPr cs hq qr QO QF QA), fm 8 (fPg cs PG)] := hw
    have lv5 := Int32.le_toInt v5
    have uv5 := Int32.toInt_lt v5
    refine lv_if_eq (tgt := 26) S.x S.b d_Mo_disk_19 (by decide) (fun c11 => ?_) (fun c11 => ?_)
    · have nc11 : v5.toInt = (0 : Int) := (i_eq (x := v5) (y := 0)).mp c11
      refine lv_aload_n S.x S.b d_Mo_disk_26 rfl (lv_at hl 0 rfl) ?_
      refine px_get S k_Mo hT hw 0 0 6 (v := .ref (mr 6)) rfl rfl rfl (by decide) m11_84 d_Mo_disk_27 ?_
      refine lv_iload_n S.x S.b d_Mo_disk_30 rfl (lv_at hl 1 rfl) ?_
      refine px_iald S hT hw 0 4 (n := 128) (f := (md 6)) rfl (ga_Mo_6 _ _ _ _ _ _ _) (x := p0) (vp_in_iff.mpr (by constructor <;> omega)) d_Mo_disk_31 ?_
      refine lv_topi (fun z12 ez12 => ?_)
      have lz12 := Int32.le_toInt z12
      have uz12 := Int32.toInt_lt z12
      exact px_iret (v := z12) S hr rfl hlk hAe hw (Nat.le_of_ble_eq_true rfl) (Nat.le_of_ble_eq_true rfl) (⟨mf3, rfl, (show (mf3 2).toInt = (mf 2).toInt from by first | exact e6 | omega), (show (mf3 3).toInt = (mf 3).toInt from by first | exact e7 | omega), (show (mf3 10).toInt = (mf 10).toInt from by first | exact e8 | omega)⟩) d_Mo_disk_32
    · have nc11 : ¬ v5.toInt = (0 : Int) := mt (i_eq (x := v5) (y := 0)).mpr c11
      refine lv_iconst (v := 0) S.x S.b d_Mo_disk_22 (by decide) ?_
      refine lv_goto (tgt := 32) S.x S.b d_Mo_disk_23 (by decide) ?_
      exact px_iret (v := 0) S hr rfl hlk hAe hw (Nat.le_of_ble_eq_true rfl) (Nat.le_of_ble_eq_true rfl) (⟨mf3, rfl, (show (mf3 2).toInt = (mf 2).toInt from by first | exact e6 | omega), (show (mf3 3).toInt = (mf 3).toInt from by first | exact e7 | omega), (show (mf3 10).toInt = (mf 10).toInt from by first | exact e8 | omega)⟩) d_Mo_disk_32
  · have nc1 : ¬ p0.toInt < (0 : Int) := mt (i_lt (x := p0) (y := 0)).mpr c1
    refine lv_iload_n S.x S.b d_Mo_disk_5 rfl (lv_at hl 1 rfl) ?_
    refine lv_bipush (v := 127) S.x S.b d_Mo_disk_6 (by decide) ?_
    refine lv_icmp_le (tgt := 15) S.x S.b d_Mo_disk_8 (by decide) (fun c13 => ?_) (fun c13 => ?_)
    · have nc13 : p0.toInt ≤ (127 : Int) := (i_le (x := p0) (y := 127)).mp c13
      refine lv_iconst (v := 0) S.x S.b d_Mo_disk_15 (by decide) ?_
      refine px_calli (pr := []) (px_runV (As := [.int 0]) (rest := []) S (c_mo_refused l D cs mo mr md mf hq qr QO QF QA PG 0  (show 0 ≤ (0 : Int) from by first | decide | omega) (show (0 : Int) ≤ 1 from by first | decide | omega) hpn hpg _) hT (pr := []) (pcs := [wd_Mo cs mo mr (fun _ => none) mf md (gMo PG hq), fm 13 (fPr cs hq qr QO QF QA), fm 8 (fPg cs PG)]) hw px_X.tt (px_recv hT hw 0 0 rfl rfl rfl) m14_184 m14_181 m14_183 ms_17_7 m1_20 q_Mo_refused ⟨Nat.le_of_ble_eq_true rfl, Nat.le_of_ble_eq_true rfl⟩ hl.1 rfl (Nat.le_of_ble_eq_true rfl) d_Mo_disk_16 ⟨Nat.le_of_ble_eq_true rfl, Nat.le_of_ble_eq_true rfl⟩) hw hA (fun v17 p16 H locs hp16 hw => ?_)
      obtain ⟨mf15, rfl, e18, e19, e20, e21, e22⟩ := hp16
      replace e18 : (mf15 2).toInt = (mf 2).toInt := e18
      replace e19 : (mf15 3).toInt = (mf 3).toInt := e19
      replace e20 : (mf15 10).toInt = (mf 10).toInt := e20
      replace e21 : v17.toInt = (0 : Int) := e21
      replace e22 : (mf15 0).toInt = (0 : Int) := e22
      replace hw : pw D A s.heap H locs [wd_Mo cs mo mr (fun _ => none) mf15 md (gMo PG hq), fm 13 (fPr cs hq qr QO QF QA), fm 8 (fPg cs PG)] := hw
      have lv17 := Int32.le_toInt v17
      have uv17 := Int32.toInt_lt v17
      refine lv_if_eq (tgt := 26) S.x S.b d_Mo_disk_19 (by decide) (fun c23 => ?_) (fun c23 => ?_)
      · have nc23 : v17.toInt = (0 : Int) := (i_eq (x := v17) (y := 0)).mp c23
        refine lv_aload_n S.x S.b d_Mo_disk_26 rfl (lv_at hl 0 rfl) ?_
        refine px_get S k_Mo hT hw 0 0 6 (v := .ref (mr 6)) rfl rfl rfl (by decide) m11_84 d_Mo_disk_27 ?_
        refine lv_iload_n S.x S.b d_Mo_disk_30 rfl (lv_at hl 1 rfl) ?_
        refine px_iald S hT hw 0 4 (n := 128) (f := (md 6)) rfl (ga_Mo_6 _ _ _ _ _ _ _) (x := p0) (vp_in_iff.mpr (by first | exact oz_a45469f712 nc1 nc13 | (constructor <;> omega))) d_Mo_disk_31 ?_
        refine lv_topi (fun z24 ez24 => ?_)
        have lz24 := Int32.le_toInt z24
        have uz24 := Int32.toInt_lt z24
        exact px_iret (v := z24) S hr rfl hlk hAe hw (Nat.le_of_ble_eq_true rfl) (Nat.le_of_ble_eq_true rfl) (⟨mf15, rfl, (show (mf15 2).toInt = (mf 2).toInt from by first | exact e18 | omega), (show (mf15 3).toInt = (mf 3).toInt from by first | exact e19 | omega), (show (mf15 10).toInt = (mf 10).toInt from by first | exact e20 | omega)⟩) d_Mo_disk_32
      · have nc23 : ¬ v17.toInt = (0 : Int) := mt (i_eq (x := v17) (y := 0)).mpr c23
        refine lv_iconst (v := 0) S.x S.b d_Mo_disk_22 (by decide) ?_
        refine lv_goto (tgt := 32) S.x S.b d_Mo_disk_23 (by decide) ?_
        exact px_iret (v := 0) S hr rfl hlk hAe hw (Nat.le_of_ble_eq_true rfl) (Nat.le_of_ble_eq_true rfl) (⟨mf15, rfl, (show (mf15 2).toInt = (mf 2).toInt from by first | exact e18 | omega), (show (mf15 3).toInt = (mf 3).toInt from by first | exact e19 | omega), (show (mf15 10).toInt = (mf 10).toInt from by first | exact e20 | omega)⟩) d_Mo_disk_32
    · have nc13 : ¬ p0.toInt ≤ (127 : Int) := mt (i_le (x := p0) (y := 127)).mpr c13
      refine lv_iconst (v := 1) S.x S.b d_Mo_disk_11 (by decide) ?_
      refine lv_goto (tgt := 16) S.x S.b d_Mo_disk_12 (by decide) ?_
      refine px_calli (pr := []) (px_runV (As := [.int 1]) (rest := []) S (c_mo_refused l D cs mo mr md mf hq qr QO QF QA PG 1  (show 0 ≤ (1 : Int) from by first | decide | omega) (show (1 : Int) ≤ 1 from by first | decide | omega) hpn hpg _) hT (pr := []) (pcs := [wd_Mo cs mo mr (fun _ => none) mf md (gMo PG hq), fm 13 (fPr cs hq qr QO QF QA), fm 8 (fPg cs PG)]) hw px_X.tt (px_recv hT hw 0 0 rfl rfl rfl) m14_184 m14_181 m14_183 ms_17_7 m1_20 q_Mo_refused ⟨Nat.le_of_ble_eq_true rfl, Nat.le_of_ble_eq_true rfl⟩ hl.1 rfl (Nat.le_of_ble_eq_true rfl) d_Mo_disk_16 ⟨Nat.le_of_ble_eq_true rfl, Nat.le_of_ble_eq_true rfl⟩) hw hA (fun v28 p27 H locs hp27 hw => ?_)
      obtain ⟨mf26, rfl, e29, e30, e31, e32, e33⟩ := hp27
      replace e29 : (mf26 2).toInt = (mf 2).toInt := e29
      replace e30 : (mf26 3).toInt = (mf 3).toInt := e30
      replace e31 : (mf26 10).toInt = (mf 10).toInt := e31
      replace e32 : v28.toInt = (1 : Int) := e32
      replace e33 : (mf26 0).toInt = (1 : Int) := e33
      replace hw : pw D A s.heap H locs [wd_Mo cs mo mr (fun _ => none) mf26 md (gMo PG hq), fm 13 (fPr cs hq qr QO QF QA), fm 8 (fPg cs PG)] := hw
      have lv28 := Int32.le_toInt v28
      have uv28 := Int32.toInt_lt v28
      refine lv_if_eq (tgt := 26) S.x S.b d_Mo_disk_19 (by decide) (fun c34 => ?_) (fun c34 => ?_)
      · have nc34 : v28.toInt = (0 : Int) := (i_eq (x := v28) (y := 0)).mp c34
        refine lv_aload_n S.x S.b d_Mo_disk_26 rfl (lv_at hl 0 rfl) ?_
        refine px_get S k_Mo hT hw 0 0 6 (v := .ref (mr 6)) rfl rfl rfl (by decide) m11_84 d_Mo_disk_27 ?_
        refine lv_iload_n S.x S.b d_Mo_disk_30 rfl (lv_at hl 1 rfl) ?_
        refine px_iald S hT hw 0 4 (n := 128) (f := (md 6)) rfl (ga_Mo_6 _ _ _ _ _ _ _) (x := p0) (vp_in_iff.mpr (by constructor <;> omega)) d_Mo_disk_31 ?_
        refine lv_topi (fun z35 ez35 => ?_)
        have lz35 := Int32.le_toInt z35
        have uz35 := Int32.toInt_lt z35
        exact px_iret (v := z35) S hr rfl hlk hAe hw (Nat.le_of_ble_eq_true rfl) (Nat.le_of_ble_eq_true rfl) (⟨mf26, rfl, (show (mf26 2).toInt = (mf 2).toInt from by first | exact e29 | omega), (show (mf26 3).toInt = (mf 3).toInt from by first | exact e30 | omega), (show (mf26 10).toInt = (mf 10).toInt from by first | exact e31 | omega)⟩) d_Mo_disk_32
      · have nc34 : ¬ v28.toInt = (0 : Int) := mt (i_eq (x := v28) (y := 0)).mpr c34
        refine lv_iconst (v := 0) S.x S.b d_Mo_disk_22 (by decide) ?_
        refine lv_goto (tgt := 32) S.x S.b d_Mo_disk_23 (by decide) ?_
        exact px_iret (v := 0) S hr rfl hlk hAe hw (Nat.le_of_ble_eq_true rfl) (Nat.le_of_ble_eq_true rfl) (⟨mf26, rfl, (show (mf26 2).toInt = (mf 2).toInt from by first | exact e29 | omega), (show (mf26 3).toInt = (mf 3).toInt from by first | exact e30 | omega), (show (mf26 10).toInt = (mf 10).toInt from by first | exact e31 | omega)⟩) d_Mo_disk_32
abbrev b_Mo_setDisk : ByteArray := prog_14_method_37_code
def y_Mo_setDisk : MethodName := ⟨"HomeSystemModel", "setDisk", "(II)V"⟩
theorem d_Mo_setDisk_0 : decode b_Mo_setDisk 0 = .ok (.aload_n 0, 1) := by decide +kernel
theorem d_Mo_setDisk_1 : decode b_Mo_setDisk 1 = .ok (.iload_n 1, 1) := by decide +kernel
theorem d_Mo_setDisk_2 : decode b_Mo_setDisk 2 = .ok (.ifCond .lt 9, 3) := by decide +kernel
theorem d_Mo_setDisk_5 : decode b_Mo_setDisk 5 = .ok (.iload_n 1, 1) := by decide +kernel
theorem d_Mo_setDisk_6 : decode b_Mo_setDisk 6 = .ok (.bipush 127, 2) := by decide +kernel
theorem d_Mo_setDisk_8 : decode b_Mo_setDisk 8 = .ok (.if_icmp .le 7, 3) := by decide +kernel
theorem d_Mo_setDisk_11 : decode b_Mo_setDisk 11 = .ok (.iconst 1, 1) := by decide +kernel
theorem d_Mo_setDisk_12 : decode b_Mo_setDisk 12 = .ok (.goto 4, 3) := by decide +kernel
theorem d_Mo_setDisk_15 : decode b_Mo_setDisk 15 = .ok (.iconst 0, 1) := by decide +kernel
theorem d_Mo_setDisk_16 : decode b_Mo_setDisk 16 = .ok (.invokevirtual 236, 3) := by decide +kernel
theorem d_Mo_setDisk_19 : decode b_Mo_setDisk 19 = .ok (.ifCond .ne 10, 3) := by decide +kernel
theorem d_Mo_setDisk_22 : decode b_Mo_setDisk 22 = .ok (.aload_n 0, 1) := by decide +kernel
theorem d_Mo_setDisk_23 : decode b_Mo_setDisk 23 = .ok (.getfield 25, 3) := by decide +kernel
theorem d_Mo_setDisk_26 : decode b_Mo_setDisk 26 = .ok (.iload_n 1, 1) := by decide +kernel
theorem d_Mo_setDisk_27 : decode b_Mo_setDisk 27 = .ok (.iload_n 2, 1) := by decide +kernel
theorem d_Mo_setDisk_28 : decode b_Mo_setDisk 28 = .ok (.iastore, 1) := by decide +kernel
theorem d_Mo_setDisk_29 : decode b_Mo_setDisk 29 = .ok (.return_, 1) := by decide +kernel
theorem q_Mo_setDisk : px_y y_Mo_setDisk 2 := by unfold px_y; decide +kernel
set_option maxHeartbeats 4000000 in
set_option maxRecDepth 100000 in
theorem c_mo_setDisk (l : Launch) (D : va_G) (cs : Nat → ClassId) (mo : Nat) (mr : Nat → Nat) (mf : Nat → Int32) (md : Nat → Nat → Int32) (hq : Nat → Nat) (qr : Nat → Nat → Nat) (QO : Nat → Option Nat) (QF : Nat → Nat → Int32) (QA : Nat → Nat → Nat → Int32) (PG : Nat → Pgs) (p0 p1 : Int32)  (hpn : PrN QF) (hpg : PgA PG) : MetV l y_Mo_setDisk b_Mo_setDisk 3 D cs 1 40 (0) (0) [.ref mo, .int p0, .int p1] [wd_Mo cs mo mr (fun _ => none) mf md (gMo PG hq), fm 13 (fPr cs hq qr QO QF QA), fm 8 (fPg cs PG)] (fun _ => True) (fun ps => ∃ (mf' : Nat → Int32) (md' : Nat → Nat → Int32), (ps = [wd_Mo cs mo mr (fun _ => none) mf' md' (gMo PG hq), fm 13 (fPr cs hq qr QO QF QA), fm 8 (fPg cs PG)]) ∧ ((mf' 2).toInt = (mf 2).toInt) ∧ ((mf' 3).toInt = (mf 3).toInt) ∧ ((mf' 10).toInt = (mf 10).toInt) ∧ (((mf' 0).toInt = 0 ∧ 0 ≤ p0.toInt ∧ p0.toInt ≤ 127) ∨ ((mf' 0).toInt = 1 ∧ (p0.toInt < 0 ∨ 127 < p0.toInt)))) := by
  refine px_enter (by decide) (Nat.le_of_ble_eq_true rfl) ?_
  intro p e s m below meth c A ls hAe S hr hlk hnm hA hT hX hw hl
  replace hl : lv_has ls 3 [(0, .ref mo), (1, .int p0), (2, .int p1)] := hl
  have lp0 := Int32.le_toInt p0
  have up0 := Int32.toInt_lt p0
  have lp1 := Int32.le_toInt p1
  have up1 := Int32.toInt_lt p1
  have cst0 : (0 : Int32).toInt = 0 := rfl
  have cst1 : (1 : Int32).toInt = 1 := rfl
  have cst127 : (127 : Int32).toInt = 127 := rfl
  refine lv_aload_n S.x S.b d_Mo_setDisk_0 rfl (lv_at hl 0 rfl) ?_
  refine lv_iload_n S.x S.b d_Mo_setDisk_1 rfl (lv_at hl 1 rfl) ?_
  refine lv_if_lt (tgt := 11) S.x S.b d_Mo_setDisk_2 (by decide) (fun c1 => ?_) (fun c1 => ?_)
  · have nc1 : p0.toInt < (0 : Int) := (i_lt (x := p0) (y := 0)).mp c1
    refine lv_iconst (v := 1) S.x S.b d_Mo_setDisk_11 (by decide) ?_
    refine lv_goto (tgt := 16) S.x S.b d_Mo_setDisk_12 (by decide) ?_
    refine px_calli (pr := []) (px_runV (As := [.int 1]) (rest := []) S (c_mo_refused l D cs mo mr md mf hq qr QO QF QA PG 1  (show 0 ≤ (1 : Int) from by first | decide | omega) (show (1 : Int) ≤ 1 from by first | decide | omega) hpn hpg _) hT (pr := []) (pcs := [wd_Mo cs mo mr (fun _ => none) mf md (gMo PG hq), fm 13 (fPr cs hq qr QO QF QA), fm 8 (fPg cs PG)]) hw px_X.tt (px_recv hT hw 0 0 rfl rfl rfl) m14_184 m14_181 m14_183 ms_17_7 m1_20 q_Mo_refused ⟨Nat.le_of_ble_eq_true rfl, Nat.le_of_ble_eq_true rfl⟩ hl.1 rfl (Nat.le_of_ble_eq_true rfl) d_Mo_setDisk_16 ⟨Nat.le_of_ble_eq_true rfl, Nat.le_of_ble_eq_true rfl⟩) hw hA (fun v5 p4 H locs hp4 hw => ?_)
    obtain ⟨mf3, rfl, e6, e7, e8, e9, e10⟩ := hp4
    replace e6 : (mf3 2).toInt = (mf 2).toInt := e6
    replace e7 : (mf3 3).toInt = (mf 3).toInt := e7
    replace e8 : (mf3 10).toInt = (mf 10).toInt := e8
    replace e9 : v5.toInt = (1 : Int) := e9
    replace e10 : (mf3 0).toInt = (1 : Int) := e10
    replace hw : pw D A s.heap H locs [wd_Mo cs mo mr (fun _ => none) mf3 md (gMo PG hq), fm 13 (fPr cs hq qr QO QF QA), fm 8 (fPg cs PG)] := hw
    have lv5 := Int32.le_toInt v5
    have uv5 := Int32.toInt_lt v5
    refine lv_if_ne (tgt := 29) S.x S.b d_Mo_setDisk_19 (by decide) (fun c11 => ?_) (fun c11 => ?_)
    · have nc11 : ¬ v5.toInt = (0 : Int) := mt (i_eq (x := v5) (y := 0)).mpr c11
      exact px_vret S hr hlk hAe hw (Nat.le_of_ble_eq_true rfl) (Nat.le_of_ble_eq_true rfl) (⟨mf3, md, rfl, (show (mf3 2).toInt = (mf 2).toInt from by first | exact e6 | omega), (show (mf3 3).toInt = (mf 3).toInt from by first | exact e7 | omega), (show (mf3 10).toInt = (mf 10).toInt from by first | exact e8 | omega), (show ((mf3 0).toInt = 0 ∧ 0 ≤ p0.toInt ∧ p0.toInt ≤ 127) ∨ ((mf3 0).toInt = 1 ∧ (p0.toInt < 0 ∨ 127 < p0.toInt)) from by first | with_reducible rfl | with_reducible assumption | omega)⟩) d_Mo_setDisk_29
    · have nc11 : v5.toInt = (0 : Int) := (i_eq (x := v5) (y := 0)).mp c11
      refine lv_aload_n S.x S.b d_Mo_setDisk_22 rfl (lv_at hl 0 rfl) ?_
      refine px_get S k_Mo hT hw 0 0 6 (v := .ref (mr 6)) rfl rfl rfl (by decide) m11_84 d_Mo_setDisk_23 ?_
      refine lv_iload_n S.x S.b d_Mo_setDisk_26 rfl (lv_at hl 1 rfl) ?_
      refine lv_iload_n S.x S.b d_Mo_setDisk_27 rfl (lv_at hl 2 rfl) ?_
      refine px_iast S hT hw 0 4 (n := 128) (f := (md 6)) (x := p0) (y := p1) rfl (ga_Mo_6 _ _ _ _ _ _ _) (vp_in_iff.mpr (by constructor <;> omega)) d_Mo_setDisk_28 (w' := wd_Mo cs mo mr (fun _ => none) mf3 (va_up md 6 (upd (md 6) p0.toNatClampNeg p1)) (gMo PG hq)) (ps' := [wd_Mo cs mo mr (fun _ => none) mf3 (va_up md 6 (upd (md 6) p0.toNatClampNeg p1)) (gMo PG hq), fm 13 (fPr cs hq qr QO QF QA), fm 8 (fPg cs PG)]) (sa_Mo_6 _ _ _ _ _ _ _ _) rfl (fun H locs hw => ?_)
      exact px_vret S hr hlk hAe hw (Nat.le_of_ble_eq_true rfl) (Nat.le_of_ble_eq_true rfl) (⟨mf3, (va_up md 6 (upd (md 6) p0.toNatClampNeg p1)), rfl, (show (mf3 2).toInt = (mf 2).toInt from by first | exact e6 | omega), (show (mf3 3).toInt = (mf 3).toInt from by first | exact e7 | omega), (show (mf3 10).toInt = (mf 10).toInt from by first | exact e8 | omega), (show ((mf3 0).toInt = 0 ∧ 0 ≤ p0.toInt ∧ p0.toInt ≤ 127) ∨ ((mf3 0).toInt = 1 ∧ (p0.toInt < 0 ∨ 127 < p0.toInt)) from by first | with_reducible rfl | with_reducible assumption | omega)⟩) d_Mo_setDisk_29
  · have nc1 : ¬ p0.toInt < (0 : Int) := mt (i_lt (x := p0) (y := 0)).mpr c1
    refine lv_iload_n S.x S.b d_Mo_setDisk_5 rfl (lv_at hl 1 rfl) ?_
    refine lv_bipush (v := 127) S.x S.b d_Mo_setDisk_6 (by decide) ?_
    refine lv_icmp_le (tgt := 15) S.x S.b d_Mo_setDisk_8 (by decide) (fun c12 => ?_) (fun c12 => ?_)
    · have nc12 : p0.toInt ≤ (127 : Int) := (i_le (x := p0) (y := 127)).mp c12
      refine lv_iconst (v := 0) S.x S.b d_Mo_setDisk_15 (by decide) ?_
      refine px_calli (pr := []) (px_runV (As := [.int 0]) (rest := []) S (c_mo_refused l D cs mo mr md mf hq qr QO QF QA PG 0  (show 0 ≤ (0 : Int) from by first | decide | omega) (show (0 : Int) ≤ 1 from by first | decide | omega) hpn hpg _) hT (pr := []) (pcs := [wd_Mo cs mo mr (fun _ => none) mf md (gMo PG hq), fm 13 (fPr cs hq qr QO QF QA), fm 8 (fPg cs PG)]) hw px_X.tt (px_recv hT hw 0 0 rfl rfl rfl) m14_184 m14_181 m14_183 ms_17_7 m1_20 q_Mo_refused ⟨Nat.le_of_ble_eq_true rfl, Nat.le_of_ble_eq_true rfl⟩ hl.1 rfl (Nat.le_of_ble_eq_true rfl) d_Mo_setDisk_16 ⟨Nat.le_of_ble_eq_true rfl, Nat.le_of_ble_eq_true rfl⟩) hw hA (fun v16 p15 H locs hp15 hw => ?_)
      obtain ⟨mf14, rfl, e17, e18, e19, e20, e21⟩ := hp15
      replace e17 : (mf14 2).toInt = (mf 2).toInt := e17
      replace e18 : (mf14 3).toInt = (mf 3).toInt := e18
      replace e19 : (mf14 10).toInt = (mf 10).toInt := e19
      replace e20 : v16.toInt = (0 : Int) := e20
      replace e21 : (mf14 0).toInt = (0 : Int) := e21
      replace hw : pw D A s.heap H locs [wd_Mo cs mo mr (fun _ => none) mf14 md (gMo PG hq), fm 13 (fPr cs hq qr QO QF QA), fm 8 (fPg cs PG)] := hw
      have lv16 := Int32.le_toInt v16
      have uv16 := Int32.toInt_lt v16
      refine lv_if_ne (tgt := 29) S.x S.b d_Mo_setDisk_19 (by decide) (fun c22 => ?_) (fun c22 => ?_)
      · have nc22 : ¬ v16.toInt = (0 : Int) := mt (i_eq (x := v16) (y := 0)).mpr c22
        exact px_vret S hr hlk hAe hw (Nat.le_of_ble_eq_true rfl) (Nat.le_of_ble_eq_true rfl) (⟨mf14, md, rfl, (show (mf14 2).toInt = (mf 2).toInt from by first | exact e17 | omega), (show (mf14 3).toInt = (mf 3).toInt from by first | exact e18 | omega), (show (mf14 10).toInt = (mf 10).toInt from by first | exact e19 | omega), (show ((mf14 0).toInt = 0 ∧ 0 ≤ p0.toInt ∧ p0.toInt ≤ 127) ∨ ((mf14 0).toInt = 1 ∧ (p0.toInt < 0 ∨ 127 < p0.toInt)) from by first | with_reducible rfl | with_reducible assumption | omega)⟩) d_Mo_setDisk_29
      · have nc22 : v16.toInt = (0 : Int) := (i_eq (x := v16) (y := 0)).mp c22
        refine lv_aload_n S.x S.b d_Mo_setDisk_22 rfl (lv_at hl 0 rfl) ?_
        refine px_get S k_Mo hT hw 0 0 6 (v := .ref (mr 6)) rfl rfl rfl (by decide) m11_84 d_Mo_setDisk_23 ?_
        refine lv_iload_n S.x S.b d_Mo_setDisk_26 rfl (lv_at hl 1 rfl) ?_
        refine lv_iload_n S.x S.b d_Mo_setDisk_27 rfl (lv_at hl 2 rfl) ?_
        refine px_iast S hT hw 0 4 (n := 128) (f := (md 6)) (x := p0) (y := p1) rfl (ga_Mo_6 _ _ _ _ _ _ _) (vp_in_iff.mpr (by constructor <;> omega)) d_Mo_setDisk_28 (w' := wd_Mo cs mo mr (fun _ => none) mf14 (va_up md 6 (upd (md 6) p0.toNatClampNeg p1)) (gMo PG hq)) (ps' := [wd_Mo cs mo mr (fun _ => none) mf14 (va_up md 6 (upd (md 6) p0.toNatClampNeg p1)) (gMo PG hq), fm 13 (fPr cs hq qr QO QF QA), fm 8 (fPg cs PG)]) (sa_Mo_6 _ _ _ _ _ _ _ _) rfl (fun H locs hw => ?_)
        exact px_vret S hr hlk hAe hw (Nat.le_of_ble_eq_true rfl) (Nat.le_of_ble_eq_true rfl) (⟨mf14, (va_up md 6 (upd (md 6) p0.toNatClampNeg p1)), rfl, (show (mf14 2).toInt = (mf 2).toInt from by first | exact e17 | omega), (show (mf14 3).toInt = (mf 3).toInt from by first | exact e18 | omega), (show (mf14 10).toInt = (mf 10).toInt from by first | exact e19 | omega), (show ((mf14 0).toInt = 0 ∧ 0 ≤ p0.toInt ∧ p0.toInt ≤ 127) ∨ ((mf14 0).toInt = 1 ∧ (p0.toInt < 0 ∨ 127 < p0.toInt)) from by first | with_reducible rfl | with_reducible assumption | omega)⟩) d_Mo_setDisk_29
    · have nc12 : ¬ p0.toInt ≤ (127 : Int) := mt (i_le (x := p0) (y := 127)).mpr c12
      refine lv_iconst (v := 1) S.x S.b d_Mo_setDisk_11 (by decide) ?_
      refine lv_goto (tgt := 16) S.x S.b d_Mo_setDisk_12 (by decide) ?_
      refine px_calli (pr := []) (px_runV (As := [.int 1]) (rest := []) S (c_mo_refused l D cs mo mr md mf hq qr QO QF QA PG 1  (show 0 ≤ (1 : Int) from by first | decide | omega) (show (1 : Int) ≤ 1 from by first | decide | omega) hpn hpg _) hT (pr := []) (pcs := [wd_Mo cs mo mr (fun _ => none) mf md (gMo PG hq), fm 13 (fPr cs hq qr QO QF QA), fm 8 (fPg cs PG)]) hw px_X.tt (px_recv hT hw 0 0 rfl rfl rfl) m14_184 m14_181 m14_183 ms_17_7 m1_20 q_Mo_refused ⟨Nat.le_of_ble_eq_true rfl, Nat.le_of_ble_eq_true rfl⟩ hl.1 rfl (Nat.le_of_ble_eq_true rfl) d_Mo_setDisk_16 ⟨Nat.le_of_ble_eq_true rfl, Nat.le_of_ble_eq_true rfl⟩) hw hA (fun v26 p25 H locs hp25 hw => ?_)
      obtain ⟨mf24, rfl, e27, e28, e29, e30, e31⟩ := hp25
      replace e27 : (mf24 2).toInt = (mf 2).toInt := e27
      replace e28 : (mf24 3).toInt = (mf 3).toInt := e28
      replace e29 : (mf24 10).toInt = (mf 10).toInt := e29
      replace e30 : v26.toInt = (1 : Int) := e30
      replace e31 : (mf24 0).toInt = (1 : Int) := e31
      replace hw : pw D A s.heap H locs [wd_Mo cs mo mr (fun _ => none) mf24 md (gMo PG hq), fm 13 (fPr cs hq qr QO QF QA), fm 8 (fPg cs PG)] := hw
      have lv26 := Int32.le_toInt v26
      have uv26 := Int32.toInt_lt v26
      refine lv_if_ne (tgt := 29) S.x S.b d_Mo_setDisk_19 (by decide) (fun c32 => ?_) (fun c32 => ?_)
      · have nc32 : ¬ v26.toInt = (0 : Int) := mt (i_eq (x := v26) (y := 0)).mpr c32
        exact px_vret S hr hlk hAe hw (Nat.le_of_ble_eq_true rfl) (Nat.le_of_ble_eq_true rfl) (⟨mf24, md, rfl, (show (mf24 2).toInt = (mf 2).toInt from by first | exact e27 | omega), (show (mf24 3).toInt = (mf 3).toInt from by first | exact e28 | omega), (show (mf24 10).toInt = (mf 10).toInt from by first | exact e29 | omega), (show ((mf24 0).toInt = 0 ∧ 0 ≤ p0.toInt ∧ p0.toInt ≤ 127) ∨ ((mf24 0).toInt = 1 ∧ (p0.toInt < 0 ∨ 127 < p0.toInt)) from by first | with_reducible rfl | with_reducible assumption | omega)⟩) d_Mo_setDisk_29
      · have nc32 : v26.toInt = (0 : Int) := (i_eq (x := v26) (y := 0)).mp c32
        refine lv_aload_n S.x S.b d_Mo_setDisk_22 rfl (lv_at hl 0 rfl) ?_
        refine px_get S k_Mo hT hw 0 0 6 (v := .ref (mr 6)) rfl rfl rfl (by decide) m11_84 d_Mo_setDisk_23 ?_
        refine lv_iload_n S.x S.b d_Mo_setDisk_26 rfl (lv_at hl 1 rfl) ?_
        refine lv_iload_n S.x S.b d_Mo_setDisk_27 rfl (lv_at hl 2 rfl) ?_
        refine px_iast S hT hw 0 4 (n := 128) (f := (md 6)) (x := p0) (y := p1) rfl (ga_Mo_6 _ _ _ _ _ _ _) (vp_in_iff.mpr (by constructor <;> omega)) d_Mo_setDisk_28 (w' := wd_Mo cs mo mr (fun _ => none) mf24 (va_up md 6 (upd (md 6) p0.toNatClampNeg p1)) (gMo PG hq)) (ps' := [wd_Mo cs mo mr (fun _ => none) mf24 (va_up md 6 (upd (md 6) p0.toNatClampNeg p1)) (gMo PG hq), fm 13 (fPr cs hq qr QO QF QA), fm 8 (fPg cs PG)]) (sa_Mo_6 _ _ _ _ _ _ _ _) rfl (fun H locs hw => ?_)
        exact px_vret S hr hlk hAe hw (Nat.le_of_ble_eq_true rfl) (Nat.le_of_ble_eq_true rfl) (⟨mf24, (va_up md 6 (upd (md 6) p0.toNatClampNeg p1)), rfl, (show (mf24 2).toInt = (mf 2).toInt from by first | exact e27 | omega), (show (mf24 3).toInt = (mf 3).toInt from by first | exact e28 | omega), (show (mf24 10).toInt = (mf 10).toInt from by first | exact e29 | omega), (show ((mf24 0).toInt = 0 ∧ 0 ≤ p0.toInt ∧ p0.toInt ≤ 127) ∨ ((mf24 0).toInt = 1 ∧ (p0.toInt < 0 ∨ 127 < p0.toInt)) from by first | with_reducible rfl | with_reducible assumption | omega)⟩) d_Mo_setDisk_29
