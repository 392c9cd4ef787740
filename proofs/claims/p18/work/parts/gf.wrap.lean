theorem m3_50 : Cond.classLink "HomeSystemLaw" 13 "java/lang/IllegalStateException" ∈ AL := AL_3 (List.mem_of_getElem? (i := 50) rfl) rfl
theorem m3_54 : Cond.code ⟨"HomeSystem", "feed", "(IIIII)V"⟩ prog_1_method_2_code 6 (Option.none : Option Jvm.ClassFile.FieldType) ∈ AL := AL_3 (List.mem_of_getElem? (i := 54) rfl) rfl
theorem m3_51 : Cond.methodLink "HomeSystemLaw" 7 ⟨"HomeSystem", "feed", "(IIIII)V"⟩ ∈ AL := AL_3 (List.mem_of_getElem? (i := 51) rfl) rfl
theorem m3_52 : Cond.instanceMethod ⟨"HomeSystem", "feed", "(IIIII)V"⟩ ∈ AL := AL_3 (List.mem_of_getElem? (i := 52) rfl) rfl
theorem m3_53 : Cond.selects "HomeSystem" ⟨"HomeSystem", "feed", "(IIIII)V"⟩ ⟨"HomeSystem", "feed", "(IIIII)V"⟩ ∈ AL := AL_3 (List.mem_of_getElem? (i := 53) rfl) rfl
theorem m3_128 : Cond.classLink "HomeSystemLaw" 19 "java/lang/IllegalArgumentException" ∈ AL := AL_3 (List.mem_of_getElem? (i := 128) rfl) rfl
theorem m3_132 : Cond.code ⟨"HomeSystem", "end", "(I)V"⟩ prog_1_method_4_code 2 (Option.none : Option Jvm.ClassFile.FieldType) ∈ AL := AL_3 (List.mem_of_getElem? (i := 132) rfl) rfl
theorem m3_129 : Cond.methodLink "HomeSystemLaw" 15 ⟨"HomeSystem", "end", "(I)V"⟩ ∈ AL := AL_3 (List.mem_of_getElem? (i := 129) rfl) rfl
theorem m3_130 : Cond.instanceMethod ⟨"HomeSystem", "end", "(I)V"⟩ ∈ AL := AL_3 (List.mem_of_getElem? (i := 130) rfl) rfl
theorem m3_131 : Cond.selects "HomeSystem" ⟨"HomeSystem", "end", "(I)V"⟩ ⟨"HomeSystem", "end", "(I)V"⟩ ∈ AL := AL_3 (List.mem_of_getElem? (i := 131) rfl) rfl
theorem m3_151 : Cond.classLink "HomeSystemLaw" 25 "java/lang/IndexOutOfBoundsException" ∈ AL := AL_3 (List.mem_of_getElem? (i := 151) rfl) rfl
theorem m3_155 : Cond.code ⟨"HomeSystem", "text", "(I)I"⟩ prog_1_method_5_code 3 (Option.some FieldType.int) ∈ AL := AL_3 (List.mem_of_getElem? (i := 155) rfl) rfl
theorem m3_152 : Cond.methodLink "HomeSystemLaw" 21 ⟨"HomeSystem", "text", "(I)I"⟩ ∈ AL := AL_3 (List.mem_of_getElem? (i := 152) rfl) rfl
theorem m3_153 : Cond.instanceMethod ⟨"HomeSystem", "text", "(I)I"⟩ ∈ AL := AL_3 (List.mem_of_getElem? (i := 153) rfl) rfl
theorem m3_154 : Cond.selects "HomeSystem" ⟨"HomeSystem", "text", "(I)I"⟩ ⟨"HomeSystem", "text", "(I)I"⟩ ∈ AL := AL_3 (List.mem_of_getElem? (i := 154) rfl) rfl
theorem m6_73 : Cond.code ⟨"HomeSystem", "raw", "(I)I"⟩ prog_1_method_7_code 6 (Option.some FieldType.int) ∈ AL := AL_6 (List.mem_of_getElem? (i := 73) rfl) rfl
theorem m6_70 : Cond.methodLink "HomeSystemLaw" 27 ⟨"HomeSystem", "raw", "(I)I"⟩ ∈ AL := AL_6 (List.mem_of_getElem? (i := 70) rfl) rfl
theorem m6_71 : Cond.instanceMethod ⟨"HomeSystem", "raw", "(I)I"⟩ ∈ AL := AL_6 (List.mem_of_getElem? (i := 71) rfl) rfl
theorem m6_72 : Cond.selects "HomeSystem" ⟨"HomeSystem", "raw", "(I)I"⟩ ⟨"HomeSystem", "raw", "(I)I"⟩ ∈ AL := AL_6 (List.mem_of_getElem? (i := 72) rfl) rfl
theorem m6_80 : Cond.code ⟨"HomeSystem", "turn", "(I)V"⟩ prog_1_method_8_code 2 (Option.none : Option Jvm.ClassFile.FieldType) ∈ AL := AL_6 (List.mem_of_getElem? (i := 80) rfl) rfl
theorem m6_77 : Cond.methodLink "HomeSystemLaw" 30 ⟨"HomeSystem", "turn", "(I)V"⟩ ∈ AL := AL_6 (List.mem_of_getElem? (i := 77) rfl) rfl
theorem m6_78 : Cond.instanceMethod ⟨"HomeSystem", "turn", "(I)V"⟩ ∈ AL := AL_6 (List.mem_of_getElem? (i := 78) rfl) rfl
theorem m6_79 : Cond.selects "HomeSystem" ⟨"HomeSystem", "turn", "(I)V"⟩ ⟨"HomeSystem", "turn", "(I)V"⟩ ∈ AL := AL_6 (List.mem_of_getElem? (i := 79) rfl) rfl
theorem m6_85 : Cond.classLink "HomeSystemLaw" 37 "java/lang/ArithmeticException" ∈ AL := AL_6 (List.mem_of_getElem? (i := 85) rfl) rfl
theorem m6_89 : Cond.code ⟨"HomeSystem", "run", "(IIII)I"⟩ prog_1_method_9_code 5 (Option.some FieldType.int) ∈ AL := AL_6 (List.mem_of_getElem? (i := 89) rfl) rfl
theorem m6_86 : Cond.methodLink "HomeSystemLaw" 33 ⟨"HomeSystem", "run", "(IIII)I"⟩ ∈ AL := AL_6 (List.mem_of_getElem? (i := 86) rfl) rfl
theorem m6_87 : Cond.instanceMethod ⟨"HomeSystem", "run", "(IIII)I"⟩ ∈ AL := AL_6 (List.mem_of_getElem? (i := 87) rfl) rfl
theorem m6_88 : Cond.selects "HomeSystem" ⟨"HomeSystem", "run", "(IIII)I"⟩ ⟨"HomeSystem", "run", "(IIII)I"⟩ ∈ AL := AL_6 (List.mem_of_getElem? (i := 88) rfl) rfl
theorem m9_77 : Cond.code ⟨"HomeSystem", "outcome", "(I)I"⟩ prog_1_method_10_code 3 (Option.some FieldType.int) ∈ AL := AL_9 (List.mem_of_getElem? (i := 77) rfl) rfl
theorem m9_74 : Cond.methodLink "HomeSystemLaw" 39 ⟨"HomeSystem", "outcome", "(I)I"⟩ ∈ AL := AL_9 (List.mem_of_getElem? (i := 74) rfl) rfl
theorem m9_75 : Cond.instanceMethod ⟨"HomeSystem", "outcome", "(I)I"⟩ ∈ AL := AL_9 (List.mem_of_getElem? (i := 75) rfl) rfl
theorem m9_76 : Cond.selects "HomeSystem" ⟨"HomeSystem", "outcome", "(I)I"⟩ ⟨"HomeSystem", "outcome", "(I)I"⟩ ∈ AL := AL_9 (List.mem_of_getElem? (i := 76) rfl) rfl
theorem m9_84 : Cond.code ⟨"HomeSystem", "value", "(I)I"⟩ prog_1_method_11_code 3 (Option.some FieldType.int) ∈ AL := AL_9 (List.mem_of_getElem? (i := 84) rfl) rfl
theorem m9_81 : Cond.methodLink "HomeSystemLaw" 42 ⟨"HomeSystem", "value", "(I)I"⟩ ∈ AL := AL_9 (List.mem_of_getElem? (i := 81) rfl) rfl
theorem m9_82 : Cond.instanceMethod ⟨"HomeSystem", "value", "(I)I"⟩ ∈ AL := AL_9 (List.mem_of_getElem? (i := 82) rfl) rfl
theorem m9_83 : Cond.selects "HomeSystem" ⟨"HomeSystem", "value", "(I)I"⟩ ⟨"HomeSystem", "value", "(I)I"⟩ ∈ AL := AL_9 (List.mem_of_getElem? (i := 83) rfl) rfl
theorem m9_91 : Cond.code ⟨"HomeSystem", "paper", "(I)I"⟩ prog_1_method_12_code 3 (Option.some FieldType.int) ∈ AL := AL_9 (List.mem_of_getElem? (i := 91) rfl) rfl
theorem m9_88 : Cond.methodLink "HomeSystemLaw" 45 ⟨"HomeSystem", "paper", "(I)I"⟩ ∈ AL := AL_9 (List.mem_of_getElem? (i := 88) rfl) rfl
theorem m9_89 : Cond.instanceMethod ⟨"HomeSystem", "paper", "(I)I"⟩ ∈ AL := AL_9 (List.mem_of_getElem? (i := 89) rfl) rfl
theorem m9_90 : Cond.selects "HomeSystem" ⟨"HomeSystem", "paper", "(I)I"⟩ ⟨"HomeSystem", "paper", "(I)I"⟩ ∈ AL := AL_9 (List.mem_of_getElem? (i := 90) rfl) rfl
theorem m9_98 : Cond.code ⟨"HomeSystem", "paperAt", "(II)I"⟩ prog_1_method_13_code 4 (Option.some FieldType.int) ∈ AL := AL_9 (List.mem_of_getElem? (i := 98) rfl) rfl
theorem m9_95 : Cond.methodLink "HomeSystemLaw" 48 ⟨"HomeSystem", "paperAt", "(II)I"⟩ ∈ AL := AL_9 (List.mem_of_getElem? (i := 95) rfl) rfl
theorem m9_96 : Cond.instanceMethod ⟨"HomeSystem", "paperAt", "(II)I"⟩ ∈ AL := AL_9 (List.mem_of_getElem? (i := 96) rfl) rfl
theorem m9_97 : Cond.selects "HomeSystem" ⟨"HomeSystem", "paperAt", "(II)I"⟩ ⟨"HomeSystem", "paperAt", "(II)I"⟩ ∈ AL := AL_9 (List.mem_of_getElem? (i := 97) rfl) rfl
theorem m9_105 : Cond.code ⟨"HomeSystem", "unread", "(IZ)I"⟩ prog_1_method_14_code 3 (Option.some FieldType.int) ∈ AL := AL_9 (List.mem_of_getElem? (i := 105) rfl) rfl
theorem m9_102 : Cond.methodLink "HomeSystemLaw" 52 ⟨"HomeSystem", "unread", "(IZ)I"⟩ ∈ AL := AL_9 (List.mem_of_getElem? (i := 102) rfl) rfl
theorem m9_103 : Cond.instanceMethod ⟨"HomeSystem", "unread", "(IZ)I"⟩ ∈ AL := AL_9 (List.mem_of_getElem? (i := 103) rfl) rfl
theorem m9_104 : Cond.selects "HomeSystem" ⟨"HomeSystem", "unread", "(IZ)I"⟩ ⟨"HomeSystem", "unread", "(IZ)I"⟩ ∈ AL := AL_9 (List.mem_of_getElem? (i := 104) rfl) rfl
theorem m9_116 : Cond.code ⟨"HomeSystem", "disk", "(I)I"⟩ prog_1_method_15_code 2 (Option.some FieldType.int) ∈ AL := AL_9 (List.mem_of_getElem? (i := 116) rfl) rfl
theorem m9_113 : Cond.methodLink "HomeSystemLaw" 56 ⟨"HomeSystem", "disk", "(I)I"⟩ ∈ AL := AL_9 (List.mem_of_getElem? (i := 113) rfl) rfl
theorem m9_114 : Cond.instanceMethod ⟨"HomeSystem", "disk", "(I)I"⟩ ∈ AL := AL_9 (List.mem_of_getElem? (i := 114) rfl) rfl
theorem m9_115 : Cond.selects "HomeSystem" ⟨"HomeSystem", "disk", "(I)I"⟩ ⟨"HomeSystem", "disk", "(I)I"⟩ ∈ AL := AL_9 (List.mem_of_getElem? (i := 115) rfl) rfl
theorem m9_123 : Cond.code ⟨"HomeSystem", "setDisk", "(II)V"⟩ prog_1_method_16_code 3 (Option.none : Option Jvm.ClassFile.FieldType) ∈ AL := AL_9 (List.mem_of_getElem? (i := 123) rfl) rfl
theorem m9_120 : Cond.methodLink "HomeSystemLaw" 59 ⟨"HomeSystem", "setDisk", "(II)V"⟩ ∈ AL := AL_9 (List.mem_of_getElem? (i := 120) rfl) rfl
theorem m9_121 : Cond.instanceMethod ⟨"HomeSystem", "setDisk", "(II)V"⟩ ∈ AL := AL_9 (List.mem_of_getElem? (i := 121) rfl) rfl
theorem m9_122 : Cond.selects "HomeSystem" ⟨"HomeSystem", "setDisk", "(II)V"⟩ ⟨"HomeSystem", "setDisk", "(II)V"⟩ ∈ AL := AL_9 (List.mem_of_getElem? (i := 122) rfl) rfl
theorem q_Hs_turn : px_y y_Hs_turn 1 := by unfold px_y; decide +kernel
abbrev b_HomeSystemLaw_feed : ByteArray := method_3_code
def y_HomeSystemLaw_feed : MethodName := ⟨"HomeSystemLaw", "feed", "(LHomeSystem;IIIII)I"⟩
theorem d_HomeSystemLaw_feed_0 : decode b_HomeSystemLaw_feed 0 = .ok (.aload_n 0, 1) := by decide +kernel
theorem d_HomeSystemLaw_feed_1 : decode b_HomeSystemLaw_feed 1 = .ok (.iload_n 1, 1) := by decide +kernel
theorem d_HomeSystemLaw_feed_2 : decode b_HomeSystemLaw_feed 2 = .ok (.iload_n 2, 1) := by decide +kernel
theorem d_HomeSystemLaw_feed_3 : decode b_HomeSystemLaw_feed 3 = .ok (.iload_n 3, 1) := by decide +kernel
theorem d_HomeSystemLaw_feed_4 : decode b_HomeSystemLaw_feed 4 = .ok (.iload 4, 2) := by decide +kernel
theorem d_HomeSystemLaw_feed_6 : decode b_HomeSystemLaw_feed 6 = .ok (.iload 5, 2) := by decide +kernel
theorem d_HomeSystemLaw_feed_8 : decode b_HomeSystemLaw_feed 8 = .ok (.invokevirtual 7, 3) := by decide +kernel
theorem d_HomeSystemLaw_feed_11 : decode b_HomeSystemLaw_feed 11 = .ok (.goto 7, 3) := by decide +kernel
theorem d_HomeSystemLaw_feed_14 : decode b_HomeSystemLaw_feed 14 = .ok (.astore 6, 2) := by decide +kernel
theorem d_HomeSystemLaw_feed_16 : decode b_HomeSystemLaw_feed 16 = .ok (.iconst 1, 1) := by decide +kernel
theorem d_HomeSystemLaw_feed_17 : decode b_HomeSystemLaw_feed 17 = .ok (.ireturn, 1) := by decide +kernel
theorem d_HomeSystemLaw_feed_18 : decode b_HomeSystemLaw_feed 18 = .ok (.iconst 0, 1) := by decide +kernel
theorem d_HomeSystemLaw_feed_19 : decode b_HomeSystemLaw_feed 19 = .ok (.ireturn, 1) := by decide +kernel
theorem q_HomeSystemLaw_feed : px_y y_HomeSystemLaw_feed 6 := by unfold px_y; decide +kernel
set_option maxHeartbeats 2000000 in
theorem k_feed {l : Launch} {D : va_G} {cs : Nat → ClassId} {xh : Nat} {r : Nat → Nat} {o : Nat → Option Nat} {f : Nat → Int32} {a : Nat → Nat → Int32} {g : Nat → Nat → Option Nat} {pt : List va_W} {P : (Nat → Prop) → State → Heap → Prop} (hG : oG P) {fr lo : Nat} {post : List va_W → Prop} {postT : List va_W → Prop} (p0 p1 p2 p3 p4 : Int32) (hM : ThV l y_Hs_feed b_Hs_feed 6 D cs fr lo [.ref xh, .int p0, .int p1, .int p2, .int p3, .int p4] (wd_Hs cs xh r o f a g :: pt) (oX P (wd_Hs cs xh r o f a g :: pt)) "java/lang/IllegalStateException" post postT) : MkI l y_HomeSystemLaw_feed b_HomeSystemLaw_feed 7 (.int) [(0, 11, 14, 13)] D cs (fr + 1) (8 + (6 + 11) + lo) 1 6 [.ref xh, .int p0, .int p1, .int p2, .int p3, .int p4] (wd_Hs cs xh r o f a g :: pt) (oX P (wd_Hs cs xh r o f a g :: pt)) (fun v9 r => (v9.toInt = 0 ∧ post r.1 ∧ r.2 = (0, 0)) ∨ (v9.toInt = 1 ∧ postT r.1 ∧ r.2 = (1, 6))) := by
  refine pk_enter (by decide) (Nat.le_of_ble_eq_true rfl) ?_
  intro p e s m below meth c A ls hAe S hr hlk hA hT hX hw hl hadm htb
  have hl : lv_has ls 7 [(0, .ref xh), (1, .int p0), (2, .int p1), (3, .int p2), (4, .int p3), (5, .int p4)] := hl
  have hX : P A s s.heap := by rw [hAe]; exact hX
  have hTk : tx_Takes s [Value.ref xh, Value.int p0, Value.int p1, Value.int p2, Value.int p3, Value.int p4].toArray "HomeSystemLaw" "java/lang/IllegalStateException" 8 14 c.exceptionTable.toList := by rw [htb]; exact Or.inr ⟨rfl, by decide, "java/lang/IllegalStateException", S.w m3_50, Or.inl ⟨rfl, Cond.castable_spec (show (Cond.castable "java/lang/IllegalStateException" "java/lang/IllegalStateException").before [Value.ref xh, Value.int p0, Value.int p1, Value.int p2, Value.int p3, Value.int p4].toArray s = true from va_Nw.use rfl (hT.2.2 _ m3_57n rfl))⟩⟩
  refine lv_aload_n S.x S.b d_HomeSystemLaw_feed_0 rfl (lv_at hl 0 rfl) ?_
  refine lv_iload_n S.x S.b d_HomeSystemLaw_feed_1 rfl (lv_at hl 1 rfl) ?_
  refine lv_iload_n S.x S.b d_HomeSystemLaw_feed_2 rfl (lv_at hl 2 rfl) ?_
  refine lv_iload_n S.x S.b d_HomeSystemLaw_feed_3 rfl (lv_at hl 3 rfl) ?_
  refine lv_iload S.x S.b d_HomeSystemLaw_feed_4 (lv_at hl 4 rfl) ?_
  refine lv_iload S.x S.b d_HomeSystemLaw_feed_6 (lv_at hl 5 rfl) ?_
  refine thh_callv (hpc := 14) (pr := []) (pcs := wd_Hs cs xh r o f a g :: pt) (As := [.int p0, .int p1, .int p2, .int p3, .int p4]) (rest := []) hM S hT hw (oX_call (P := P) (pr := []) hG hw hA hX) (px_recv hT hw 0 0 rfl rfl rfl) m3_54 m3_51 m3_52 m3_53 m1_1 q_Hs_feed ⟨Nat.le_refl _, Nat.le_refl _⟩ hl.1 rfl (Nat.le_of_ble_eq_true rfl) d_HomeSystemLaw_feed_8 ⟨Nat.le_refl _, Nat.le_refl _⟩ hA hTk ?_ (fun u H locs hp hw => ?_)
  · intro x9 p9 H locs hp9 hw
    refine lv_astore (lv' := [(6, .ref x9), (0, .ref xh), (1, .int p0), (2, .int p1), (3, .int p2), (4, .int p3), (5, .int p4)]) S.x S.b d_HomeSystemLaw_feed_14 hl (by decide) rfl (fun ls hl => ?_)
    refine lv_iconst (v := 1) S.x S.b d_HomeSystemLaw_feed_16 (by decide) ?_
    exact pg_iret (v := 1) S hr rfl hlk hAe hw (show 0 + 1 ≤ 1 from by omega) (show 0 + 6 ≤ 6 from by omega) (Or.inr ⟨rfl, hp9, rfl⟩) d_HomeSystemLaw_feed_17
  refine lv_goto (tgt := 18) S.x S.b d_HomeSystemLaw_feed_11 (by decide) ?_
  refine lv_iconst (v := 0) S.x S.b d_HomeSystemLaw_feed_18 (by decide) ?_
  exact pg_iret (v := 0) S hr rfl hlk hAe hw (Nat.zero_le _) (Nat.zero_le _) (Or.inl ⟨rfl, hp, rfl⟩) d_HomeSystemLaw_feed_19
abbrev b_HomeSystemLaw_end : ByteArray := method_4_code
def y_HomeSystemLaw_end : MethodName := ⟨"HomeSystemLaw", "end", "(LHomeSystem;I)I"⟩
theorem d_HomeSystemLaw_end_0 : decode b_HomeSystemLaw_end 0 = .ok (.aload_n 0, 1) := by decide +kernel
theorem d_HomeSystemLaw_end_1 : decode b_HomeSystemLaw_end 1 = .ok (.iload_n 1, 1) := by decide +kernel
theorem d_HomeSystemLaw_end_2 : decode b_HomeSystemLaw_end 2 = .ok (.invokevirtual 15, 3) := by decide +kernel
theorem d_HomeSystemLaw_end_5 : decode b_HomeSystemLaw_end 5 = .ok (.goto 6, 3) := by decide +kernel
theorem d_HomeSystemLaw_end_8 : decode b_HomeSystemLaw_end 8 = .ok (.astore_n 2, 1) := by decide +kernel
theorem d_HomeSystemLaw_end_9 : decode b_HomeSystemLaw_end 9 = .ok (.iconst 1, 1) := by decide +kernel
theorem d_HomeSystemLaw_end_10 : decode b_HomeSystemLaw_end 10 = .ok (.ireturn, 1) := by decide +kernel
theorem d_HomeSystemLaw_end_11 : decode b_HomeSystemLaw_end 11 = .ok (.iconst 0, 1) := by decide +kernel
theorem d_HomeSystemLaw_end_12 : decode b_HomeSystemLaw_end 12 = .ok (.ireturn, 1) := by decide +kernel
theorem q_HomeSystemLaw_end : px_y y_HomeSystemLaw_end 2 := by unfold px_y; decide +kernel
set_option maxHeartbeats 2000000 in
theorem k_end {l : Launch} {D : va_G} {cs : Nat → ClassId} {xh : Nat} {r : Nat → Nat} {o : Nat → Option Nat} {f : Nat → Int32} {a : Nat → Nat → Int32} {g : Nat → Nat → Option Nat} {pt : List va_W} {P : (Nat → Prop) → State → Heap → Prop} (hG : oG P) {fr lo : Nat} {post : List va_W → Prop} {postT : List va_W → Prop} (p0 : Int32) (hM : ThV l y_Hs_end b_Hs_end 2 D cs fr lo [.ref xh, .int p0] (wd_Hs cs xh r o f a g :: pt) (oX P (wd_Hs cs xh r o f a g :: pt)) "java/lang/IllegalArgumentException" post postT) : MkI l y_HomeSystemLaw_end b_HomeSystemLaw_end 3 (.int) [(0, 5, 8, 19)] D cs (fr + 1) (8 + (2 + 11) + lo) 1 6 [.ref xh, .int p0] (wd_Hs cs xh r o f a g :: pt) (oX P (wd_Hs cs xh r o f a g :: pt)) (fun v9 r => (v9.toInt = 0 ∧ post r.1 ∧ r.2 = (0, 0)) ∨ (v9.toInt = 1 ∧ postT r.1 ∧ r.2 = (1, 6))) := by
  refine pk_enter (by decide) (Nat.le_of_ble_eq_true rfl) ?_
  intro p e s m below meth c A ls hAe S hr hlk hA hT hX hw hl hadm htb
  have hl : lv_has ls 3 [(0, .ref xh), (1, .int p0)] := hl
  have hX : P A s s.heap := by rw [hAe]; exact hX
  have hTk : tx_Takes s [Value.ref xh, Value.int p0].toArray "HomeSystemLaw" "java/lang/IllegalArgumentException" 2 8 c.exceptionTable.toList := by rw [htb]; exact Or.inr ⟨rfl, by decide, "java/lang/IllegalArgumentException", S.w m3_128, Or.inl ⟨rfl, Cond.castable_spec (show (Cond.castable "java/lang/IllegalArgumentException" "java/lang/IllegalArgumentException").before [Value.ref xh, Value.int p0].toArray s = true from va_Nw.use rfl (hT.2.2 _ m3_135n rfl))⟩⟩
  refine lv_aload_n S.x S.b d_HomeSystemLaw_end_0 rfl (lv_at hl 0 rfl) ?_
  refine lv_iload_n S.x S.b d_HomeSystemLaw_end_1 rfl (lv_at hl 1 rfl) ?_
  refine thh_callv (hpc := 8) (pr := []) (pcs := wd_Hs cs xh r o f a g :: pt) (As := [.int p0]) (rest := []) hM S hT hw (oX_call (P := P) (pr := []) hG hw hA hX) (px_recv hT hw 0 0 rfl rfl rfl) m3_132 m3_129 m3_130 m3_131 m1_1 q_Hs_end ⟨Nat.le_refl _, Nat.le_refl _⟩ hl.1 rfl (Nat.le_of_ble_eq_true rfl) d_HomeSystemLaw_end_2 ⟨Nat.le_refl _, Nat.le_refl _⟩ hA hTk ?_ (fun u H locs hp hw => ?_)
  · intro x9 p9 H locs hp9 hw
    refine lv_astore_n (lv' := [(2, .ref x9), (0, .ref xh), (1, .int p0)]) S.x S.b d_HomeSystemLaw_end_8 rfl hl (by decide) rfl (fun ls hl => ?_)
    refine lv_iconst (v := 1) S.x S.b d_HomeSystemLaw_end_9 (by decide) ?_
    exact pg_iret (v := 1) S hr rfl hlk hAe hw (show 0 + 1 ≤ 1 from by omega) (show 0 + 6 ≤ 6 from by omega) (Or.inr ⟨rfl, hp9, rfl⟩) d_HomeSystemLaw_end_10
  refine lv_goto (tgt := 11) S.x S.b d_HomeSystemLaw_end_5 (by decide) ?_
  refine lv_iconst (v := 0) S.x S.b d_HomeSystemLaw_end_11 (by decide) ?_
  exact pg_iret (v := 0) S hr rfl hlk hAe hw (Nat.zero_le _) (Nat.zero_le _) (Or.inl ⟨rfl, hp, rfl⟩) d_HomeSystemLaw_end_12
abbrev b_HomeSystemLaw_text : ByteArray := method_5_code
def y_HomeSystemLaw_text : MethodName := ⟨"HomeSystemLaw", "text", "(LHomeSystem;I[J)I"⟩
theorem d_HomeSystemLaw_text_0 : decode b_HomeSystemLaw_text 0 = .ok (.aload_n 2, 1) := by decide +kernel
theorem d_HomeSystemLaw_text_1 : decode b_HomeSystemLaw_text 1 = .ok (.iconst 0, 1) := by decide +kernel
theorem d_HomeSystemLaw_text_2 : decode b_HomeSystemLaw_text 2 = .ok (.aload_n 0, 1) := by decide +kernel
theorem d_HomeSystemLaw_text_3 : decode b_HomeSystemLaw_text 3 = .ok (.iload_n 1, 1) := by decide +kernel
theorem d_HomeSystemLaw_text_4 : decode b_HomeSystemLaw_text 4 = .ok (.invokevirtual 21, 3) := by decide +kernel
theorem d_HomeSystemLaw_text_7 : decode b_HomeSystemLaw_text 7 = .ok (.i2l, 1) := by decide +kernel
theorem d_HomeSystemLaw_text_8 : decode b_HomeSystemLaw_text 8 = .ok (.lastore, 1) := by decide +kernel
theorem d_HomeSystemLaw_text_9 : decode b_HomeSystemLaw_text 9 = .ok (.goto 6, 3) := by decide +kernel
theorem d_HomeSystemLaw_text_12 : decode b_HomeSystemLaw_text 12 = .ok (.astore_n 3, 1) := by decide +kernel
theorem d_HomeSystemLaw_text_13 : decode b_HomeSystemLaw_text 13 = .ok (.iconst 1, 1) := by decide +kernel
theorem d_HomeSystemLaw_text_14 : decode b_HomeSystemLaw_text 14 = .ok (.ireturn, 1) := by decide +kernel
theorem d_HomeSystemLaw_text_15 : decode b_HomeSystemLaw_text 15 = .ok (.iconst 0, 1) := by decide +kernel
theorem d_HomeSystemLaw_text_16 : decode b_HomeSystemLaw_text 16 = .ok (.ireturn, 1) := by decide +kernel
theorem q_HomeSystemLaw_text : px_y y_HomeSystemLaw_text 3 := by unfold px_y; decide +kernel
set_option maxHeartbeats 2000000 in
theorem k_text {l : Launch} {D : va_G} {cs : Nat → ClassId} {xh q : Nat} {r : Nat → Nat} {o : Nat → Option Nat} {f : Nat → Int32} {a : Nat → Nat → Int32} {g : Nat → Nat → Option Nat} {pt : List va_W} {lv : Nat → Int64} {P : (Nat → Prop) → State → Heap → Prop} (hG : oG P) {fr lo mc ms : Nat} {post : Int32 → List va_W × Nat × Nat → Prop} {postT : List va_W → Prop} (p0 : Int32) (hM : TgI l y_Hs_text b_Hs_text 3 (.int) D cs fr lo mc ms [.ref xh, .int p0] (wd_Hs cs xh r o f a g :: pt) (oX P (wd_Hs cs xh r o f a g :: pt)) ["java/lang/IndexOutOfBoundsException"] post postT) (h1 : 1 ≤ mc) (h6 : 6 ≤ ms) (hb : ∀ v u k n, post v (u, k, n) → k ≤ mc ∧ n ≤ ms) : MkI l y_HomeSystemLaw_text b_HomeSystemLaw_text 4 (.int) [(0, 9, 12, 25)] D cs (fr + 1) (8 + (3 + 11) + lo) mc ms [.ref xh, .int p0, .ref q] (wL cs q lv :: wd_Hs cs xh r o f a g :: pt) (oX P (wL cs q lv :: wd_Hs cs xh r o f a g :: pt)) (fun v9 r => ∃ (lv9 : Nat → Int64) (u : List va_W), r.1 = wL cs q lv9 :: u ∧ ((v9.toInt = 0 ∧ ∃ v0 : Int32, lv9 0 = v0.toInt64 ∧ post v0 (u, r.2)) ∨ (v9.toInt = 1 ∧ postT u ∧ r.2 = (1, 6)))) := by
  refine pk_enter (by decide) (Nat.le_of_ble_eq_true rfl) ?_
  intro p e s m below meth c A ls hAe S hr hlk hA hT hX hw hl hadm htb
  have hl : lv_has ls 4 [(0, .ref xh), (1, .int p0), (2, .ref q)] := hl
  have hX : P A s s.heap := by rw [hAe]; exact hX
  have hTk : tx_Takes s [Value.ref xh, Value.int p0, Value.ref q].toArray "HomeSystemLaw" "java/lang/IndexOutOfBoundsException" 4 12 c.exceptionTable.toList := by rw [htb]; exact Or.inr ⟨rfl, by decide, "java/lang/IndexOutOfBoundsException", S.w m3_151, Or.inl ⟨rfl, Cond.castable_spec (show (Cond.castable "java/lang/IndexOutOfBoundsException" "java/lang/IndexOutOfBoundsException").before [Value.ref xh, Value.int p0, Value.ref q].toArray s = true from va_Nw.use rfl (hT.2.2 _ m3_158n rfl))⟩⟩
  refine lv_aload_n S.x S.b d_HomeSystemLaw_text_0 rfl (lv_at hl 2 rfl) ?_
  refine lv_iconst (v := 0) S.x S.b d_HomeSystemLaw_text_1 (by decide) ?_
  refine lv_aload_n S.x S.b d_HomeSystemLaw_text_2 rfl (lv_at hl 0 rfl) ?_
  refine lv_iload_n S.x S.b d_HomeSystemLaw_text_3 rfl (lv_at hl 1 rfl) ?_
  refine tgh_calli (HP := fun h => h = 12) (pr := [wL cs q lv]) (pcs := wd_Hs cs xh r o f a g :: pt) (As := [.int p0]) (rest := [.int 0, .ref q]) hM S hT hw (oX_call (P := P) (pr := [wL cs q lv]) hG hw hA hX) (px_recv hT hw 1 0 rfl rfl rfl) m3_155 m3_152 m3_153 m3_154 m1_1 q_Hs_text ⟨Nat.le_refl _, Nat.le_refl _⟩ hl.1 rfl (Nat.le_of_ble_eq_true rfl) d_HomeSystemLaw_text_4 ⟨by show 0 + mc ≤ mc; omega, by show 0 + ms ≤ ms; omega⟩ hA (fun E hE => by have h9 := List.mem_singleton.mp hE; subst h9; exact ⟨12, rfl, hTk⟩) ?_ (fun v1 u k1 n1 H locs hp hw => ?_)
  · intro hpc x9 p9 H locs hh9 hp9 hw
    subst hh9
    refine lv_astore_n (lv' := [(3, .ref x9), (0, .ref xh), (1, .int p0), (2, .ref q)]) S.x S.b d_HomeSystemLaw_text_12 rfl hl (by decide) rfl (fun ls hl => ?_)
    refine lv_iconst (v := 1) S.x S.b d_HomeSystemLaw_text_13 (by decide) ?_
    exact pg_iret (v := 1) S hr rfl hlk hAe hw (show 0 + 1 ≤ mc from by omega) (show 0 + 6 ≤ ms from by omega) ⟨lv, p9, rfl, Or.inr ⟨rfl, hp9, rfl⟩⟩ d_HomeSystemLaw_text_14
  refine lv_i2l S.x S.b d_HomeSystemLaw_text_7 rfl ?_
  refine px_last S hT (ps := wL cs q lv :: u) hw 0 0 rfl rfl (vp_in_iff.mpr (by decide)) d_HomeSystemLaw_text_8 rfl rfl (fun H locs hw => ?_)
  refine lv_goto (tgt := 15) S.x S.b d_HomeSystemLaw_text_9 (by decide) ?_
  refine lv_iconst (v := 0) S.x S.b d_HomeSystemLaw_text_15 (by decide) ?_
  have hb9 := hb v1 u k1 n1 hp
  exact pg_iret (v := 0) S hr rfl hlk hAe hw (show 0 + k1 ≤ mc from by omega) (show 0 + n1 ≤ ms from by omega) ⟨_, u, rfl, Or.inl ⟨rfl, v1, rfl, by rw [Nat.zero_add, Nat.zero_add]; exact hp⟩⟩ d_HomeSystemLaw_text_16
abbrev b_HomeSystemLaw_raw : ByteArray := method_6_code
def y_HomeSystemLaw_raw : MethodName := ⟨"HomeSystemLaw", "raw", "(LHomeSystem;I[J)I"⟩
theorem d_HomeSystemLaw_raw_0 : decode b_HomeSystemLaw_raw 0 = .ok (.aload_n 2, 1) := by decide +kernel
theorem d_HomeSystemLaw_raw_1 : decode b_HomeSystemLaw_raw 1 = .ok (.iconst 0, 1) := by decide +kernel
theorem d_HomeSystemLaw_raw_2 : decode b_HomeSystemLaw_raw 2 = .ok (.aload_n 0, 1) := by decide +kernel
theorem d_HomeSystemLaw_raw_3 : decode b_HomeSystemLaw_raw 3 = .ok (.iload_n 1, 1) := by decide +kernel
theorem d_HomeSystemLaw_raw_4 : decode b_HomeSystemLaw_raw 4 = .ok (.invokevirtual 27, 3) := by decide +kernel
theorem d_HomeSystemLaw_raw_7 : decode b_HomeSystemLaw_raw 7 = .ok (.i2l, 1) := by decide +kernel
theorem d_HomeSystemLaw_raw_8 : decode b_HomeSystemLaw_raw 8 = .ok (.lastore, 1) := by decide +kernel
theorem d_HomeSystemLaw_raw_9 : decode b_HomeSystemLaw_raw 9 = .ok (.goto 6, 3) := by decide +kernel
theorem d_HomeSystemLaw_raw_12 : decode b_HomeSystemLaw_raw 12 = .ok (.astore_n 3, 1) := by decide +kernel
theorem d_HomeSystemLaw_raw_13 : decode b_HomeSystemLaw_raw 13 = .ok (.iconst 1, 1) := by decide +kernel
theorem d_HomeSystemLaw_raw_14 : decode b_HomeSystemLaw_raw 14 = .ok (.ireturn, 1) := by decide +kernel
theorem d_HomeSystemLaw_raw_15 : decode b_HomeSystemLaw_raw 15 = .ok (.iconst 0, 1) := by decide +kernel
theorem d_HomeSystemLaw_raw_16 : decode b_HomeSystemLaw_raw 16 = .ok (.ireturn, 1) := by decide +kernel
theorem q_HomeSystemLaw_raw : px_y y_HomeSystemLaw_raw 3 := by unfold px_y; decide +kernel
set_option maxHeartbeats 2000000 in
theorem k_raw {l : Launch} {D : va_G} {cs : Nat → ClassId} {xh q : Nat} {r : Nat → Nat} {o : Nat → Option Nat} {f : Nat → Int32} {a : Nat → Nat → Int32} {g : Nat → Nat → Option Nat} {pt : List va_W} {lv : Nat → Int64} {P : (Nat → Prop) → State → Heap → Prop} (hG : oG P) {fr lo mc ms : Nat} {post : Int32 → List va_W × Nat × Nat → Prop} {postT : List va_W → Prop} (p0 : Int32) (hM : TgI l y_Hs_raw b_Hs_raw 6 (.int) D cs fr lo mc ms [.ref xh, .int p0] (wd_Hs cs xh r o f a g :: pt) (oX P (wd_Hs cs xh r o f a g :: pt)) ["java/lang/IndexOutOfBoundsException"] post postT) (h1 : 1 ≤ mc) (h6 : 6 ≤ ms) (hb : ∀ v u k n, post v (u, k, n) → k ≤ mc ∧ n ≤ ms) : MkI l y_HomeSystemLaw_raw b_HomeSystemLaw_raw 4 (.int) [(0, 9, 12, 25)] D cs (fr + 1) (8 + (6 + 11) + lo) mc ms [.ref xh, .int p0, .ref q] (wL cs q lv :: wd_Hs cs xh r o f a g :: pt) (oX P (wL cs q lv :: wd_Hs cs xh r o f a g :: pt)) (fun v9 r => ∃ (lv9 : Nat → Int64) (u : List va_W), r.1 = wL cs q lv9 :: u ∧ ((v9.toInt = 0 ∧ ∃ v0 : Int32, lv9 0 = v0.toInt64 ∧ post v0 (u, r.2)) ∨ (v9.toInt = 1 ∧ postT u ∧ r.2 = (1, 6)))) := by
  refine pk_enter (by decide) (Nat.le_of_ble_eq_true rfl) ?_
  intro p e s m below meth c A ls hAe S hr hlk hA hT hX hw hl hadm htb
  have hl : lv_has ls 4 [(0, .ref xh), (1, .int p0), (2, .ref q)] := hl
  have hX : P A s s.heap := by rw [hAe]; exact hX
  have hTk : tx_Takes s [Value.ref xh, Value.int p0, Value.ref q].toArray "HomeSystemLaw" "java/lang/IndexOutOfBoundsException" 4 12 c.exceptionTable.toList := by rw [htb]; exact Or.inr ⟨rfl, by decide, "java/lang/IndexOutOfBoundsException", S.w m3_151, Or.inl ⟨rfl, Cond.castable_spec (show (Cond.castable "java/lang/IndexOutOfBoundsException" "java/lang/IndexOutOfBoundsException").before [Value.ref xh, Value.int p0, Value.ref q].toArray s = true from va_Nw.use rfl (hT.2.2 _ m3_158n rfl))⟩⟩
  refine lv_aload_n S.x S.b d_HomeSystemLaw_raw_0 rfl (lv_at hl 2 rfl) ?_
  refine lv_iconst (v := 0) S.x S.b d_HomeSystemLaw_raw_1 (by decide) ?_
  refine lv_aload_n S.x S.b d_HomeSystemLaw_raw_2 rfl (lv_at hl 0 rfl) ?_
  refine lv_iload_n S.x S.b d_HomeSystemLaw_raw_3 rfl (lv_at hl 1 rfl) ?_
  refine tgh_calli (HP := fun h => h = 12) (pr := [wL cs q lv]) (pcs := wd_Hs cs xh r o f a g :: pt) (As := [.int p0]) (rest := [.int 0, .ref q]) hM S hT hw (oX_call (P := P) (pr := [wL cs q lv]) hG hw hA hX) (px_recv hT hw 1 0 rfl rfl rfl) m6_73 m6_70 m6_71 m6_72 m1_1 q_Hs_raw ⟨Nat.le_refl _, Nat.le_refl _⟩ hl.1 rfl (Nat.le_of_ble_eq_true rfl) d_HomeSystemLaw_raw_4 ⟨by show 0 + mc ≤ mc; omega, by show 0 + ms ≤ ms; omega⟩ hA (fun E hE => by have h9 := List.mem_singleton.mp hE; subst h9; exact ⟨12, rfl, hTk⟩) ?_ (fun v1 u k1 n1 H locs hp hw => ?_)
  · intro hpc x9 p9 H locs hh9 hp9 hw
    subst hh9
    refine lv_astore_n (lv' := [(3, .ref x9), (0, .ref xh), (1, .int p0), (2, .ref q)]) S.x S.b d_HomeSystemLaw_raw_12 rfl hl (by decide) rfl (fun ls hl => ?_)
    refine lv_iconst (v := 1) S.x S.b d_HomeSystemLaw_raw_13 (by decide) ?_
    exact pg_iret (v := 1) S hr rfl hlk hAe hw (show 0 + 1 ≤ mc from by omega) (show 0 + 6 ≤ ms from by omega) ⟨lv, p9, rfl, Or.inr ⟨rfl, hp9, rfl⟩⟩ d_HomeSystemLaw_raw_14
  refine lv_i2l S.x S.b d_HomeSystemLaw_raw_7 rfl ?_
  refine px_last S hT (ps := wL cs q lv :: u) hw 0 0 rfl rfl (vp_in_iff.mpr (by decide)) d_HomeSystemLaw_raw_8 rfl rfl (fun H locs hw => ?_)
  refine lv_goto (tgt := 15) S.x S.b d_HomeSystemLaw_raw_9 (by decide) ?_
  refine lv_iconst (v := 0) S.x S.b d_HomeSystemLaw_raw_15 (by decide) ?_
  have hb9 := hb v1 u k1 n1 hp
  exact pg_iret (v := 0) S hr rfl hlk hAe hw (show 0 + k1 ≤ mc from by omega) (show 0 + n1 ≤ ms from by omega) ⟨_, u, rfl, Or.inl ⟨rfl, v1, rfl, by rw [Nat.zero_add, Nat.zero_add]; exact hp⟩⟩ d_HomeSystemLaw_raw_16
abbrev b_HomeSystemLaw_turn : ByteArray := method_7_code
def y_HomeSystemLaw_turn : MethodName := ⟨"HomeSystemLaw", "turn", "(LHomeSystem;I)I"⟩
theorem d_HomeSystemLaw_turn_0 : decode b_HomeSystemLaw_turn 0 = .ok (.aload_n 0, 1) := by decide +kernel
theorem d_HomeSystemLaw_turn_1 : decode b_HomeSystemLaw_turn 1 = .ok (.iload_n 1, 1) := by decide +kernel
theorem d_HomeSystemLaw_turn_2 : decode b_HomeSystemLaw_turn 2 = .ok (.invokevirtual 30, 3) := by decide +kernel
theorem d_HomeSystemLaw_turn_5 : decode b_HomeSystemLaw_turn 5 = .ok (.goto 6, 3) := by decide +kernel
theorem d_HomeSystemLaw_turn_8 : decode b_HomeSystemLaw_turn 8 = .ok (.astore_n 2, 1) := by decide +kernel
theorem d_HomeSystemLaw_turn_9 : decode b_HomeSystemLaw_turn 9 = .ok (.iconst 1, 1) := by decide +kernel
theorem d_HomeSystemLaw_turn_10 : decode b_HomeSystemLaw_turn 10 = .ok (.ireturn, 1) := by decide +kernel
theorem d_HomeSystemLaw_turn_11 : decode b_HomeSystemLaw_turn 11 = .ok (.iconst 0, 1) := by decide +kernel
theorem d_HomeSystemLaw_turn_12 : decode b_HomeSystemLaw_turn 12 = .ok (.ireturn, 1) := by decide +kernel
theorem q_HomeSystemLaw_turn : px_y y_HomeSystemLaw_turn 2 := by unfold px_y; decide +kernel
set_option maxHeartbeats 2000000 in
theorem k_turn {l : Launch} {D : va_G} {cs : Nat → ClassId} {xh : Nat} {r : Nat → Nat} {o : Nat → Option Nat} {f : Nat → Int32} {a : Nat → Nat → Int32} {g : Nat → Nat → Option Nat} {pt : List va_W} {P : (Nat → Prop) → State → Heap → Prop} (hG : oG P) {fr lo : Nat} {post : List va_W → Prop} {postT : List va_W → Prop} (p0 : Int32) (hM : ThV l y_Hs_turn b_Hs_turn 2 D cs fr lo [.ref xh, .int p0] (wd_Hs cs xh r o f a g :: pt) (oX P (wd_Hs cs xh r o f a g :: pt)) "java/lang/IllegalArgumentException" post postT) : MkI l y_HomeSystemLaw_turn b_HomeSystemLaw_turn 3 (.int) [(0, 5, 8, 19)] D cs (fr + 1) (8 + (2 + 11) + lo) 1 6 [.ref xh, .int p0] (wd_Hs cs xh r o f a g :: pt) (oX P (wd_Hs cs xh r o f a g :: pt)) (fun v9 r => (v9.toInt = 0 ∧ post r.1 ∧ r.2 = (0, 0)) ∨ (v9.toInt = 1 ∧ postT r.1 ∧ r.2 = (1, 6))) := by
  refine pk_enter (by decide) (Nat.le_of_ble_eq_true rfl) ?_
  intro p e s m below meth c A ls hAe S hr hlk hA hT hX hw hl hadm htb
  have hl : lv_has ls 3 [(0, .ref xh), (1, .int p0)] := hl
  have hX : P A s s.heap := by rw [hAe]; exact hX
  have hTk : tx_Takes s [Value.ref xh, Value.int p0].toArray "HomeSystemLaw" "java/lang/IllegalArgumentException" 2 8 c.exceptionTable.toList := by rw [htb]; exact Or.inr ⟨rfl, by decide, "java/lang/IllegalArgumentException", S.w m3_128, Or.inl ⟨rfl, Cond.castable_spec (show (Cond.castable "java/lang/IllegalArgumentException" "java/lang/IllegalArgumentException").before [Value.ref xh, Value.int p0].toArray s = true from va_Nw.use rfl (hT.2.2 _ m3_135n rfl))⟩⟩
  refine lv_aload_n S.x S.b d_HomeSystemLaw_turn_0 rfl (lv_at hl 0 rfl) ?_
  refine lv_iload_n S.x S.b d_HomeSystemLaw_turn_1 rfl (lv_at hl 1 rfl) ?_
  refine thh_callv (hpc := 8) (pr := []) (pcs := wd_Hs cs xh r o f a g :: pt) (As := [.int p0]) (rest := []) hM S hT hw (oX_call (P := P) (pr := []) hG hw hA hX) (px_recv hT hw 0 0 rfl rfl rfl) m6_80 m6_77 m6_78 m6_79 m1_1 q_Hs_turn ⟨Nat.le_refl _, Nat.le_refl _⟩ hl.1 rfl (Nat.le_of_ble_eq_true rfl) d_HomeSystemLaw_turn_2 ⟨Nat.le_refl _, Nat.le_refl _⟩ hA hTk ?_ (fun u H locs hp hw => ?_)
  · intro x9 p9 H locs hp9 hw
    refine lv_astore_n (lv' := [(2, .ref x9), (0, .ref xh), (1, .int p0)]) S.x S.b d_HomeSystemLaw_turn_8 rfl hl (by decide) rfl (fun ls hl => ?_)
    refine lv_iconst (v := 1) S.x S.b d_HomeSystemLaw_turn_9 (by decide) ?_
    exact pg_iret (v := 1) S hr rfl hlk hAe hw (show 0 + 1 ≤ 1 from by omega) (show 0 + 6 ≤ 6 from by omega) (Or.inr ⟨rfl, hp9, rfl⟩) d_HomeSystemLaw_turn_10
  refine lv_goto (tgt := 11) S.x S.b d_HomeSystemLaw_turn_5 (by decide) ?_
  refine lv_iconst (v := 0) S.x S.b d_HomeSystemLaw_turn_11 (by decide) ?_
  exact pg_iret (v := 0) S hr rfl hlk hAe hw (Nat.zero_le _) (Nat.zero_le _) (Or.inl ⟨rfl, hp, rfl⟩) d_HomeSystemLaw_turn_12
abbrev b_HomeSystemLaw_run : ByteArray := method_8_code
def y_HomeSystemLaw_run : MethodName := ⟨"HomeSystemLaw", "run", "(LHomeSystem;IIII[J)I"⟩
theorem d_HomeSystemLaw_run_0 : decode b_HomeSystemLaw_run 0 = .ok (.aload 5, 2) := by decide +kernel
theorem d_HomeSystemLaw_run_2 : decode b_HomeSystemLaw_run 2 = .ok (.iconst 0, 1) := by decide +kernel
theorem d_HomeSystemLaw_run_3 : decode b_HomeSystemLaw_run 3 = .ok (.aload_n 0, 1) := by decide +kernel
theorem d_HomeSystemLaw_run_4 : decode b_HomeSystemLaw_run 4 = .ok (.iload_n 1, 1) := by decide +kernel
theorem d_HomeSystemLaw_run_5 : decode b_HomeSystemLaw_run 5 = .ok (.iload_n 2, 1) := by decide +kernel
theorem d_HomeSystemLaw_run_6 : decode b_HomeSystemLaw_run 6 = .ok (.iload_n 3, 1) := by decide +kernel
theorem d_HomeSystemLaw_run_7 : decode b_HomeSystemLaw_run 7 = .ok (.iload 4, 2) := by decide +kernel
theorem d_HomeSystemLaw_run_9 : decode b_HomeSystemLaw_run 9 = .ok (.invokevirtual 33, 3) := by decide +kernel
theorem d_HomeSystemLaw_run_12 : decode b_HomeSystemLaw_run 12 = .ok (.i2l, 1) := by decide +kernel
theorem d_HomeSystemLaw_run_13 : decode b_HomeSystemLaw_run 13 = .ok (.lastore, 1) := by decide +kernel
theorem d_HomeSystemLaw_run_14 : decode b_HomeSystemLaw_run 14 = .ok (.goto 15, 3) := by decide +kernel
theorem d_HomeSystemLaw_run_17 : decode b_HomeSystemLaw_run 17 = .ok (.astore 6, 2) := by decide +kernel
theorem d_HomeSystemLaw_run_19 : decode b_HomeSystemLaw_run 19 = .ok (.iconst 1, 1) := by decide +kernel
theorem d_HomeSystemLaw_run_20 : decode b_HomeSystemLaw_run 20 = .ok (.ireturn, 1) := by decide +kernel
theorem d_HomeSystemLaw_run_21 : decode b_HomeSystemLaw_run 21 = .ok (.astore 6, 2) := by decide +kernel
theorem d_HomeSystemLaw_run_23 : decode b_HomeSystemLaw_run 23 = .ok (.iconst 2, 1) := by decide +kernel
theorem d_HomeSystemLaw_run_24 : decode b_HomeSystemLaw_run 24 = .ok (.ireturn, 1) := by decide +kernel
theorem d_HomeSystemLaw_run_25 : decode b_HomeSystemLaw_run 25 = .ok (.astore 6, 2) := by decide +kernel
theorem d_HomeSystemLaw_run_27 : decode b_HomeSystemLaw_run 27 = .ok (.iconst 3, 1) := by decide +kernel
theorem d_HomeSystemLaw_run_28 : decode b_HomeSystemLaw_run 28 = .ok (.ireturn, 1) := by decide +kernel
theorem d_HomeSystemLaw_run_29 : decode b_HomeSystemLaw_run 29 = .ok (.iconst 0, 1) := by decide +kernel
theorem d_HomeSystemLaw_run_30 : decode b_HomeSystemLaw_run 30 = .ok (.ireturn, 1) := by decide +kernel
theorem q_HomeSystemLaw_run : px_y y_HomeSystemLaw_run 6 := by unfold px_y; decide +kernel
set_option maxHeartbeats 2000000 in
theorem k_run {l : Launch} {D : va_G} {cs : Nat → ClassId} {xh q : Nat} {r : Nat → Nat} {o : Nat → Option Nat} {f : Nat → Int32} {a : Nat → Nat → Int32} {g : Nat → Nat → Option Nat} {pt : List va_W} {lv : Nat → Int64} {P : (Nat → Prop) → State → Heap → Prop} (hG : oG P) {fr lo mc ms : Nat} {post : Int32 → List va_W × Nat × Nat → Prop} {postT : List va_W → Prop} (p0 p1 p2 p3 : Int32) (hM : TgI l y_Hs_run b_Hs_run 5 (.int) D cs fr lo mc ms [.ref xh, .int p0, .int p1, .int p2, .int p3] (wd_Hs cs xh r o f a g :: pt) (oX P (wd_Hs cs xh r o f a g :: pt)) ["java/lang/IndexOutOfBoundsException", "java/lang/IllegalArgumentException", "java/lang/ArithmeticException"] post postT) (h1 : 1 ≤ mc) (h6 : 6 ≤ ms) (hb : ∀ v u k n, post v (u, k, n) → k ≤ mc ∧ n ≤ ms) : MkI l y_HomeSystemLaw_run b_HomeSystemLaw_run 7 (.int) [(0, 14, 17, 25), (0, 14, 21, 19), (0, 14, 25, 37)] D cs (fr + 1) (8 + (5 + 11) + lo) mc ms [.ref xh, .int p0, .int p1, .int p2, .int p3, .ref q] (wL cs q lv :: wd_Hs cs xh r o f a g :: pt) (oX P (wL cs q lv :: wd_Hs cs xh r o f a g :: pt)) (fun v9 r => ∃ (lv9 : Nat → Int64) (u : List va_W), r.1 = wL cs q lv9 :: u ∧ ((v9.toInt = 0 ∧ ∃ v0 : Int32, lv9 0 = v0.toInt64 ∧ post v0 (u, r.2)) ∨ (True ∧ postT u ∧ r.2 = (1, 6)))) := by
  refine pk_enter (by decide) (Nat.le_of_ble_eq_true rfl) ?_
  intro p e s m below meth c A ls hAe S hr hlk hA hT hX hw hl hadm htb
  have hl : lv_has ls 7 [(0, .ref xh), (1, .int p0), (2, .int p1), (3, .int p2), (4, .int p3), (5, .ref q)] := hl
  have hX : P A s s.heap := by rw [hAe]; exact hX
  have hTk : ∀ E ∈ ["java/lang/IndexOutOfBoundsException", "java/lang/IllegalArgumentException", "java/lang/ArithmeticException"], ∃ hpc, (hpc = 17 ∨ hpc = 21 ∨ hpc = 25) ∧ tx_Takes s [Value.ref xh, Value.int p0, Value.int p1, Value.int p2, Value.int p3, Value.ref q].toArray "HomeSystemLaw" E 9 hpc c.exceptionTable.toList := fun E hE => by rw [htb]; exact tk_3 rfl rfl rfl (by decide) (by decide) (by decide) (S.w m3_151) (S.w m3_128) (S.w m6_85) rfl rfl rfl (Cond.castable_spec (show (Cond.castable "java/lang/IndexOutOfBoundsException" "java/lang/IndexOutOfBoundsException").before [Value.ref xh, Value.int p0, Value.int p1, Value.int p2, Value.int p3, Value.ref q].toArray s = true from va_Nw.use rfl (hT.2.2 _ m3_158n rfl))) (Cond.castable_spec (show (Cond.castable "java/lang/IllegalArgumentException" "java/lang/IllegalArgumentException").before [Value.ref xh, Value.int p0, Value.int p1, Value.int p2, Value.int p3, Value.ref q].toArray s = true from va_Nw.use rfl (hT.2.2 _ m3_135n rfl))) (Cond.castable_spec (show (Cond.castable "java/lang/ArithmeticException" "java/lang/ArithmeticException").before [Value.ref xh, Value.int p0, Value.int p1, Value.int p2, Value.int p3, Value.ref q].toArray s = true from va_Nw.use rfl (hT.2.2 _ m6_92n rfl))) hE
  refine lv_aload S.x S.b d_HomeSystemLaw_run_0 (lv_at hl 5 rfl) ?_
  refine lv_iconst (v := 0) S.x S.b d_HomeSystemLaw_run_2 (by decide) ?_
  refine lv_aload_n S.x S.b d_HomeSystemLaw_run_3 rfl (lv_at hl 0 rfl) ?_
  refine lv_iload_n S.x S.b d_HomeSystemLaw_run_4 rfl (lv_at hl 1 rfl) ?_
  refine lv_iload_n S.x S.b d_HomeSystemLaw_run_5 rfl (lv_at hl 2 rfl) ?_
  refine lv_iload_n S.x S.b d_HomeSystemLaw_run_6 rfl (lv_at hl 3 rfl) ?_
  refine lv_iload S.x S.b d_HomeSystemLaw_run_7 (lv_at hl 4 rfl) ?_
  refine tgh_calli (HP := fun h => h = 17 ∨ h = 21 ∨ h = 25) (pr := [wL cs q lv]) (pcs := wd_Hs cs xh r o f a g :: pt) (As := [.int p0, .int p1, .int p2, .int p3]) (rest := [.int 0, .ref q]) hM S hT hw (oX_call (P := P) (pr := [wL cs q lv]) hG hw hA hX) (px_recv hT hw 1 0 rfl rfl rfl) m6_89 m6_86 m6_87 m6_88 m1_1 q_Hs_run ⟨Nat.le_refl _, Nat.le_refl _⟩ hl.1 rfl (Nat.le_of_ble_eq_true rfl) d_HomeSystemLaw_run_9 ⟨by show 0 + mc ≤ mc; omega, by show 0 + ms ≤ ms; omega⟩ hA hTk ?_ (fun v1 u k1 n1 H locs hp hw => ?_)
  · intro hpc x9 p9 H locs hh9 hp9 hw
    rcases hh9 with h9 | h9 | h9 <;> subst h9
    · skip
      refine lv_astore (lv' := [(6, .ref x9), (0, .ref xh), (1, .int p0), (2, .int p1), (3, .int p2), (4, .int p3), (5, .ref q)]) S.x S.b d_HomeSystemLaw_run_17 hl (by decide) rfl (fun ls hl => ?_)
      refine lv_iconst (v := 1) S.x S.b d_HomeSystemLaw_run_19 (by decide) ?_
      exact pg_iret (v := 1) S hr rfl hlk hAe hw (show 0 + 1 ≤ mc from by omega) (show 0 + 6 ≤ ms from by omega) ⟨lv, p9, rfl, Or.inr ⟨trivial, hp9, rfl⟩⟩ d_HomeSystemLaw_run_20
    · skip
      refine lv_astore (lv' := [(6, .ref x9), (0, .ref xh), (1, .int p0), (2, .int p1), (3, .int p2), (4, .int p3), (5, .ref q)]) S.x S.b d_HomeSystemLaw_run_21 hl (by decide) rfl (fun ls hl => ?_)
      refine lv_iconst (v := 2) S.x S.b d_HomeSystemLaw_run_23 (by decide) ?_
      exact pg_iret (v := 2) S hr rfl hlk hAe hw (show 0 + 1 ≤ mc from by omega) (show 0 + 6 ≤ ms from by omega) ⟨lv, p9, rfl, Or.inr ⟨trivial, hp9, rfl⟩⟩ d_HomeSystemLaw_run_24
    · skip
      refine lv_astore (lv' := [(6, .ref x9), (0, .ref xh), (1, .int p0), (2, .int p1), (3, .int p2), (4, .int p3), (5, .ref q)]) S.x S.b d_HomeSystemLaw_run_25 hl (by decide) rfl (fun ls hl => ?_)
      refine lv_iconst (v := 3) S.x S.b d_HomeSystemLaw_run_27 (by decide) ?_
      exact pg_iret (v := 3) S hr rfl hlk hAe hw (show 0 + 1 ≤ mc from by omega) (show 0 + 6 ≤ ms from by omega) ⟨lv, p9, rfl, Or.inr ⟨trivial, hp9, rfl⟩⟩ d_HomeSystemLaw_run_28
  refine lv_i2l S.x S.b d_HomeSystemLaw_run_12 rfl ?_
  refine px_last S hT (ps := wL cs q lv :: u) hw 0 0 rfl rfl (vp_in_iff.mpr (by decide)) d_HomeSystemLaw_run_13 rfl rfl (fun H locs hw => ?_)
  refine lv_goto (tgt := 29) S.x S.b d_HomeSystemLaw_run_14 (by decide) ?_
  refine lv_iconst (v := 0) S.x S.b d_HomeSystemLaw_run_29 (by decide) ?_
  have hb9 := hb v1 u k1 n1 hp
  exact pg_iret (v := 0) S hr rfl hlk hAe hw (show 0 + k1 ≤ mc from by omega) (show 0 + n1 ≤ ms from by omega) ⟨_, u, rfl, Or.inl ⟨rfl, v1, rfl, by rw [Nat.zero_add, Nat.zero_add]; exact hp⟩⟩ d_HomeSystemLaw_run_30
abbrev b_HomeSystemLaw_outcome : ByteArray := method_9_code
def y_HomeSystemLaw_outcome : MethodName := ⟨"HomeSystemLaw", "outcome", "(LHomeSystem;I[J)I"⟩
theorem d_HomeSystemLaw_outcome_0 : decode b_HomeSystemLaw_outcome 0 = .ok (.aload_n 2, 1) := by decide +kernel
theorem d_HomeSystemLaw_outcome_1 : decode b_HomeSystemLaw_outcome 1 = .ok (.iconst 0, 1) := by decide +kernel
theorem d_HomeSystemLaw_outcome_2 : decode b_HomeSystemLaw_outcome 2 = .ok (.aload_n 0, 1) := by decide +kernel
theorem d_HomeSystemLaw_outcome_3 : decode b_HomeSystemLaw_outcome 3 = .ok (.iload_n 1, 1) := by decide +kernel
theorem d_HomeSystemLaw_outcome_4 : decode b_HomeSystemLaw_outcome 4 = .ok (.invokevirtual 39, 3) := by decide +kernel
theorem d_HomeSystemLaw_outcome_7 : decode b_HomeSystemLaw_outcome 7 = .ok (.i2l, 1) := by decide +kernel
theorem d_HomeSystemLaw_outcome_8 : decode b_HomeSystemLaw_outcome 8 = .ok (.lastore, 1) := by decide +kernel
theorem d_HomeSystemLaw_outcome_9 : decode b_HomeSystemLaw_outcome 9 = .ok (.goto 6, 3) := by decide +kernel
theorem d_HomeSystemLaw_outcome_12 : decode b_HomeSystemLaw_outcome 12 = .ok (.astore_n 3, 1) := by decide +kernel
theorem d_HomeSystemLaw_outcome_13 : decode b_HomeSystemLaw_outcome 13 = .ok (.iconst 1, 1) := by decide +kernel
theorem d_HomeSystemLaw_outcome_14 : decode b_HomeSystemLaw_outcome 14 = .ok (.ireturn, 1) := by decide +kernel
theorem d_HomeSystemLaw_outcome_15 : decode b_HomeSystemLaw_outcome 15 = .ok (.iconst 0, 1) := by decide +kernel
theorem d_HomeSystemLaw_outcome_16 : decode b_HomeSystemLaw_outcome 16 = .ok (.ireturn, 1) := by decide +kernel
theorem q_HomeSystemLaw_outcome : px_y y_HomeSystemLaw_outcome 3 := by unfold px_y; decide +kernel
set_option maxHeartbeats 2000000 in
theorem k_outcome {l : Launch} {D : va_G} {cs : Nat → ClassId} {xh q : Nat} {r : Nat → Nat} {o : Nat → Option Nat} {f : Nat → Int32} {a : Nat → Nat → Int32} {g : Nat → Nat → Option Nat} {pt : List va_W} {lv : Nat → Int64} {P : (Nat → Prop) → State → Heap → Prop} (hG : oG P) {fr lo mc ms : Nat} {post : Int32 → List va_W × Nat × Nat → Prop} {postT : List va_W → Prop} (p0 : Int32) (hM : TgI l y_Hs_outcome b_Hs_outcome 3 (.int) D cs fr lo mc ms [.ref xh, .int p0] (wd_Hs cs xh r o f a g :: pt) (oX P (wd_Hs cs xh r o f a g :: pt)) ["java/lang/IndexOutOfBoundsException"] post postT) (h1 : 1 ≤ mc) (h6 : 6 ≤ ms) (hb : ∀ v u k n, post v (u, k, n) → k ≤ mc ∧ n ≤ ms) : MkI l y_HomeSystemLaw_outcome b_HomeSystemLaw_outcome 4 (.int) [(0, 9, 12, 25)] D cs (fr + 1) (8 + (3 + 11) + lo) mc ms [.ref xh, .int p0, .ref q] (wL cs q lv :: wd_Hs cs xh r o f a g :: pt) (oX P (wL cs q lv :: wd_Hs cs xh r o f a g :: pt)) (fun v9 r => ∃ (lv9 : Nat → Int64) (u : List va_W), r.1 = wL cs q lv9 :: u ∧ ((v9.toInt = 0 ∧ ∃ v0 : Int32, lv9 0 = v0.toInt64 ∧ post v0 (u, r.2)) ∨ (v9.toInt = 1 ∧ postT u ∧ r.2 = (1, 6)))) := by
  refine pk_enter (by decide) (Nat.le_of_ble_eq_true rfl) ?_
  intro p e s m below meth c A ls hAe S hr hlk hA hT hX hw hl hadm htb
  have hl : lv_has ls 4 [(0, .ref xh), (1, .int p0), (2, .ref q)] := hl
  have hX : P A s s.heap := by rw [hAe]; exact hX
  have hTk : tx_Takes s [Value.ref xh, Value.int p0, Value.ref q].toArray "HomeSystemLaw" "java/lang/IndexOutOfBoundsException" 4 12 c.exceptionTable.toList := by rw [htb]; exact Or.inr ⟨rfl, by decide, "java/lang/IndexOutOfBoundsException", S.w m3_151, Or.inl ⟨rfl, Cond.castable_spec (show (Cond.castable "java/lang/IndexOutOfBoundsException" "java/lang/IndexOutOfBoundsException").before [Value.ref xh, Value.int p0, Value.ref q].toArray s = true from va_Nw.use rfl (hT.2.2 _ m3_158n rfl))⟩⟩
  refine lv_aload_n S.x S.b d_HomeSystemLaw_outcome_0 rfl (lv_at hl 2 rfl) ?_
  refine lv_iconst (v := 0) S.x S.b d_HomeSystemLaw_outcome_1 (by decide) ?_
  refine lv_aload_n S.x S.b d_HomeSystemLaw_outcome_2 rfl (lv_at hl 0 rfl) ?_
  refine lv_iload_n S.x S.b d_HomeSystemLaw_outcome_3 rfl (lv_at hl 1 rfl) ?_
  refine tgh_calli (HP := fun h => h = 12) (pr := [wL cs q lv]) (pcs := wd_Hs cs xh r o f a g :: pt) (As := [.int p0]) (rest := [.int 0, .ref q]) hM S hT hw (oX_call (P := P) (pr := [wL cs q lv]) hG hw hA hX) (px_recv hT hw 1 0 rfl rfl rfl) m9_77 m9_74 m9_75 m9_76 m1_1 q_Hs_outcome ⟨Nat.le_refl _, Nat.le_refl _⟩ hl.1 rfl (Nat.le_of_ble_eq_true rfl) d_HomeSystemLaw_outcome_4 ⟨by show 0 + mc ≤ mc; omega, by show 0 + ms ≤ ms; omega⟩ hA (fun E hE => by have h9 := List.mem_singleton.mp hE; subst h9; exact ⟨12, rfl, hTk⟩) ?_ (fun v1 u k1 n1 H locs hp hw => ?_)
  · intro hpc x9 p9 H locs hh9 hp9 hw
    subst hh9
    refine lv_astore_n (lv' := [(3, .ref x9), (0, .ref xh), (1, .int p0), (2, .ref q)]) S.x S.b d_HomeSystemLaw_outcome_12 rfl hl (by decide) rfl (fun ls hl => ?_)
    refine lv_iconst (v := 1) S.x S.b d_HomeSystemLaw_outcome_13 (by decide) ?_
    exact pg_iret (v := 1) S hr rfl hlk hAe hw (show 0 + 1 ≤ mc from by omega) (show 0 + 6 ≤ ms from by omega) ⟨lv, p9, rfl, Or.inr ⟨rfl, hp9, rfl⟩⟩ d_HomeSystemLaw_outcome_14
  refine lv_i2l S.x S.b d_HomeSystemLaw_outcome_7 rfl ?_
  refine px_last S hT (ps := wL cs q lv :: u) hw 0 0 rfl rfl (vp_in_iff.mpr (by decide)) d_HomeSystemLaw_outcome_8 rfl rfl (fun H locs hw => ?_)
  refine lv_goto (tgt := 15) S.x S.b d_HomeSystemLaw_outcome_9 (by decide) ?_
  refine lv_iconst (v := 0) S.x S.b d_HomeSystemLaw_outcome_15 (by decide) ?_
  have hb9 := hb v1 u k1 n1 hp
  exact pg_iret (v := 0) S hr rfl hlk hAe hw (show 0 + k1 ≤ mc from by omega) (show 0 + n1 ≤ ms from by omega) ⟨_, u, rfl, Or.inl ⟨rfl, v1, rfl, by rw [Nat.zero_add, Nat.zero_add]; exact hp⟩⟩ d_HomeSystemLaw_outcome_16
abbrev b_HomeSystemLaw_value : ByteArray := method_10_code
def y_HomeSystemLaw_value : MethodName := ⟨"HomeSystemLaw", "value", "(LHomeSystem;I[J)I"⟩
theorem d_HomeSystemLaw_value_0 : decode b_HomeSystemLaw_value 0 = .ok (.aload_n 2, 1) := by decide +kernel
theorem d_HomeSystemLaw_value_1 : decode b_HomeSystemLaw_value 1 = .ok (.iconst 0, 1) := by decide +kernel
theorem d_HomeSystemLaw_value_2 : decode b_HomeSystemLaw_value 2 = .ok (.aload_n 0, 1) := by decide +kernel
theorem d_HomeSystemLaw_value_3 : decode b_HomeSystemLaw_value 3 = .ok (.iload_n 1, 1) := by decide +kernel
theorem d_HomeSystemLaw_value_4 : decode b_HomeSystemLaw_value 4 = .ok (.invokevirtual 42, 3) := by decide +kernel
theorem d_HomeSystemLaw_value_7 : decode b_HomeSystemLaw_value 7 = .ok (.i2l, 1) := by decide +kernel
theorem d_HomeSystemLaw_value_8 : decode b_HomeSystemLaw_value 8 = .ok (.lastore, 1) := by decide +kernel
theorem d_HomeSystemLaw_value_9 : decode b_HomeSystemLaw_value 9 = .ok (.goto 6, 3) := by decide +kernel
theorem d_HomeSystemLaw_value_12 : decode b_HomeSystemLaw_value 12 = .ok (.astore_n 3, 1) := by decide +kernel
theorem d_HomeSystemLaw_value_13 : decode b_HomeSystemLaw_value 13 = .ok (.iconst 1, 1) := by decide +kernel
theorem d_HomeSystemLaw_value_14 : decode b_HomeSystemLaw_value 14 = .ok (.ireturn, 1) := by decide +kernel
theorem d_HomeSystemLaw_value_15 : decode b_HomeSystemLaw_value 15 = .ok (.iconst 0, 1) := by decide +kernel
theorem d_HomeSystemLaw_value_16 : decode b_HomeSystemLaw_value 16 = .ok (.ireturn, 1) := by decide +kernel
theorem q_HomeSystemLaw_value : px_y y_HomeSystemLaw_value 3 := by unfold px_y; decide +kernel
set_option maxHeartbeats 2000000 in
theorem k_value {l : Launch} {D : va_G} {cs : Nat → ClassId} {xh q : Nat} {r : Nat → Nat} {o : Nat → Option Nat} {f : Nat → Int32} {a : Nat → Nat → Int32} {g : Nat → Nat → Option Nat} {pt : List va_W} {lv : Nat → Int64} {P : (Nat → Prop) → State → Heap → Prop} (hG : oG P) {fr lo mc ms : Nat} {post : Int32 → List va_W × Nat × Nat → Prop} {postT : List va_W → Prop} (p0 : Int32) (hM : TgI l y_Hs_value b_Hs_value 3 (.int) D cs fr lo mc ms [.ref xh, .int p0] (wd_Hs cs xh r o f a g :: pt) (oX P (wd_Hs cs xh r o f a g :: pt)) ["java/lang/IndexOutOfBoundsException"] post postT) (h1 : 1 ≤ mc) (h6 : 6 ≤ ms) (hb : ∀ v u k n, post v (u, k, n) → k ≤ mc ∧ n ≤ ms) : MkI l y_HomeSystemLaw_value b_HomeSystemLaw_value 4 (.int) [(0, 9, 12, 25)] D cs (fr + 1) (8 + (3 + 11) + lo) mc ms [.ref xh, .int p0, .ref q] (wL cs q lv :: wd_Hs cs xh r o f a g :: pt) (oX P (wL cs q lv :: wd_Hs cs xh r o f a g :: pt)) (fun v9 r => ∃ (lv9 : Nat → Int64) (u : List va_W), r.1 = wL cs q lv9 :: u ∧ ((v9.toInt = 0 ∧ ∃ v0 : Int32, lv9 0 = v0.toInt64 ∧ post v0 (u, r.2)) ∨ (v9.toInt = 1 ∧ postT u ∧ r.2 = (1, 6)))) := by
  refine pk_enter (by decide) (Nat.le_of_ble_eq_true rfl) ?_
  intro p e s m below meth c A ls hAe S hr hlk hA hT hX hw hl hadm htb
  have hl : lv_has ls 4 [(0, .ref xh), (1, .int p0), (2, .ref q)] := hl
  have hX : P A s s.heap := by rw [hAe]; exact hX
  have hTk : tx_Takes s [Value.ref xh, Value.int p0, Value.ref q].toArray "HomeSystemLaw" "java/lang/IndexOutOfBoundsException" 4 12 c.exceptionTable.toList := by rw [htb]; exact Or.inr ⟨rfl, by decide, "java/lang/IndexOutOfBoundsException", S.w m3_151, Or.inl ⟨rfl, Cond.castable_spec (show (Cond.castable "java/lang/IndexOutOfBoundsException" "java/lang/IndexOutOfBoundsException").before [Value.ref xh, Value.int p0, Value.ref q].toArray s = true from va_Nw.use rfl (hT.2.2 _ m3_158n rfl))⟩⟩
  refine lv_aload_n S.x S.b d_HomeSystemLaw_value_0 rfl (lv_at hl 2 rfl) ?_
  refine lv_iconst (v := 0) S.x S.b d_HomeSystemLaw_value_1 (by decide) ?_
  refine lv_aload_n S.x S.b d_HomeSystemLaw_value_2 rfl (lv_at hl 0 rfl) ?_
  refine lv_iload_n S.x S.b d_HomeSystemLaw_value_3 rfl (lv_at hl 1 rfl) ?_
  refine tgh_calli (HP := fun h => h = 12) (pr := [wL cs q lv]) (pcs := wd_Hs cs xh r o f a g :: pt) (As := [.int p0]) (rest := [.int 0, .ref q]) hM S hT hw (oX_call (P := P) (pr := [wL cs q lv]) hG hw hA hX) (px_recv hT hw 1 0 rfl rfl rfl) m9_84 m9_81 m9_82 m9_83 m1_1 q_Hs_value ⟨Nat.le_refl _, Nat.le_refl _⟩ hl.1 rfl (Nat.le_of_ble_eq_true rfl) d_HomeSystemLaw_value_4 ⟨by show 0 + mc ≤ mc; omega, by show 0 + ms ≤ ms; omega⟩ hA (fun E hE => by have h9 := List.mem_singleton.mp hE; subst h9; exact ⟨12, rfl, hTk⟩) ?_ (fun v1 u k1 n1 H locs hp hw => ?_)
  · intro hpc x9 p9 H locs hh9 hp9 hw
    subst hh9
    refine lv_astore_n (lv' := [(3, .ref x9), (0, .ref xh), (1, .int p0), (2, .ref q)]) S.x S.b d_HomeSystemLaw_value_12 rfl hl (by decide) rfl (fun ls hl => ?_)
    refine lv_iconst (v := 1) S.x S.b d_HomeSystemLaw_value_13 (by decide) ?_
    exact pg_iret (v := 1) S hr rfl hlk hAe hw (show 0 + 1 ≤ mc from by omega) (show 0 + 6 ≤ ms from by omega) ⟨lv, p9, rfl, Or.inr ⟨rfl, hp9, rfl⟩⟩ d_HomeSystemLaw_value_14
  refine lv_i2l S.x S.b d_HomeSystemLaw_value_7 rfl ?_
  refine px_last S hT (ps := wL cs q lv :: u) hw 0 0 rfl rfl (vp_in_iff.mpr (by decide)) d_HomeSystemLaw_value_8 rfl rfl (fun H locs hw => ?_)
  refine lv_goto (tgt := 15) S.x S.b d_HomeSystemLaw_value_9 (by decide) ?_
  refine lv_iconst (v := 0) S.x S.b d_HomeSystemLaw_value_15 (by decide) ?_
  have hb9 := hb v1 u k1 n1 hp
  exact pg_iret (v := 0) S hr rfl hlk hAe hw (show 0 + k1 ≤ mc from by omega) (show 0 + n1 ≤ ms from by omega) ⟨_, u, rfl, Or.inl ⟨rfl, v1, rfl, by rw [Nat.zero_add, Nat.zero_add]; exact hp⟩⟩ d_HomeSystemLaw_value_16
abbrev b_HomeSystemLaw_paper : ByteArray := method_11_code
def y_HomeSystemLaw_paper : MethodName := ⟨"HomeSystemLaw", "paper", "(LHomeSystem;I[J)I"⟩
theorem d_HomeSystemLaw_paper_0 : decode b_HomeSystemLaw_paper 0 = .ok (.aload_n 2, 1) := by decide +kernel
theorem d_HomeSystemLaw_paper_1 : decode b_HomeSystemLaw_paper 1 = .ok (.iconst 0, 1) := by decide +kernel
theorem d_HomeSystemLaw_paper_2 : decode b_HomeSystemLaw_paper 2 = .ok (.aload_n 0, 1) := by decide +kernel
theorem d_HomeSystemLaw_paper_3 : decode b_HomeSystemLaw_paper 3 = .ok (.iload_n 1, 1) := by decide +kernel
theorem d_HomeSystemLaw_paper_4 : decode b_HomeSystemLaw_paper 4 = .ok (.invokevirtual 45, 3) := by decide +kernel
theorem d_HomeSystemLaw_paper_7 : decode b_HomeSystemLaw_paper 7 = .ok (.i2l, 1) := by decide +kernel
theorem d_HomeSystemLaw_paper_8 : decode b_HomeSystemLaw_paper 8 = .ok (.lastore, 1) := by decide +kernel
theorem d_HomeSystemLaw_paper_9 : decode b_HomeSystemLaw_paper 9 = .ok (.goto 6, 3) := by decide +kernel
theorem d_HomeSystemLaw_paper_12 : decode b_HomeSystemLaw_paper 12 = .ok (.astore_n 3, 1) := by decide +kernel
theorem d_HomeSystemLaw_paper_13 : decode b_HomeSystemLaw_paper 13 = .ok (.iconst 1, 1) := by decide +kernel
theorem d_HomeSystemLaw_paper_14 : decode b_HomeSystemLaw_paper 14 = .ok (.ireturn, 1) := by decide +kernel
theorem d_HomeSystemLaw_paper_15 : decode b_HomeSystemLaw_paper 15 = .ok (.iconst 0, 1) := by decide +kernel
theorem d_HomeSystemLaw_paper_16 : decode b_HomeSystemLaw_paper 16 = .ok (.ireturn, 1) := by decide +kernel
theorem q_HomeSystemLaw_paper : px_y y_HomeSystemLaw_paper 3 := by unfold px_y; decide +kernel
set_option maxHeartbeats 2000000 in
theorem k_paper {l : Launch} {D : va_G} {cs : Nat → ClassId} {xh q : Nat} {r : Nat → Nat} {o : Nat → Option Nat} {f : Nat → Int32} {a : Nat → Nat → Int32} {g : Nat → Nat → Option Nat} {pt : List va_W} {lv : Nat → Int64} {P : (Nat → Prop) → State → Heap → Prop} (hG : oG P) {fr lo mc ms : Nat} {post : Int32 → List va_W × Nat × Nat → Prop} {postT : List va_W → Prop} (p0 : Int32) (hM : TgI l y_Hs_paper b_Hs_paper 3 (.int) D cs fr lo mc ms [.ref xh, .int p0] (wd_Hs cs xh r o f a g :: pt) (oX P (wd_Hs cs xh r o f a g :: pt)) ["java/lang/IndexOutOfBoundsException"] post postT) (h1 : 1 ≤ mc) (h6 : 6 ≤ ms) (hb : ∀ v u k n, post v (u, k, n) → k ≤ mc ∧ n ≤ ms) : MkI l y_HomeSystemLaw_paper b_HomeSystemLaw_paper 4 (.int) [(0, 9, 12, 25)] D cs (fr + 1) (8 + (3 + 11) + lo) mc ms [.ref xh, .int p0, .ref q] (wL cs q lv :: wd_Hs cs xh r o f a g :: pt) (oX P (wL cs q lv :: wd_Hs cs xh r o f a g :: pt)) (fun v9 r => ∃ (lv9 : Nat → Int64) (u : List va_W), r.1 = wL cs q lv9 :: u ∧ ((v9.toInt = 0 ∧ ∃ v0 : Int32, lv9 0 = v0.toInt64 ∧ post v0 (u, r.2)) ∨ (v9.toInt = 1 ∧ postT u ∧ r.2 = (1, 6)))) := by
  refine pk_enter (by decide) (Nat.le_of_ble_eq_true rfl) ?_
  intro p e s m below meth c A ls hAe S hr hlk hA hT hX hw hl hadm htb
  have hl : lv_has ls 4 [(0, .ref xh), (1, .int p0), (2, .ref q)] := hl
  have hX : P A s s.heap := by rw [hAe]; exact hX
  have hTk : tx_Takes s [Value.ref xh, Value.int p0, Value.ref q].toArray "HomeSystemLaw" "java/lang/IndexOutOfBoundsException" 4 12 c.exceptionTable.toList := by rw [htb]; exact Or.inr ⟨rfl, by decide, "java/lang/IndexOutOfBoundsException", S.w m3_151, Or.inl ⟨rfl, Cond.castable_spec (show (Cond.castable "java/lang/IndexOutOfBoundsException" "java/lang/IndexOutOfBoundsException").before [Value.ref xh, Value.int p0, Value.ref q].toArray s = true from va_Nw.use rfl (hT.2.2 _ m3_158n rfl))⟩⟩
  refine lv_aload_n S.x S.b d_HomeSystemLaw_paper_0 rfl (lv_at hl 2 rfl) ?_
  refine lv_iconst (v := 0) S.x S.b d_HomeSystemLaw_paper_1 (by decide) ?_
  refine lv_aload_n S.x S.b d_HomeSystemLaw_paper_2 rfl (lv_at hl 0 rfl) ?_
  refine lv_iload_n S.x S.b d_HomeSystemLaw_paper_3 rfl (lv_at hl 1 rfl) ?_
  refine tgh_calli (HP := fun h => h = 12) (pr := [wL cs q lv]) (pcs := wd_Hs cs xh r o f a g :: pt) (As := [.int p0]) (rest := [.int 0, .ref q]) hM S hT hw (oX_call (P := P) (pr := [wL cs q lv]) hG hw hA hX) (px_recv hT hw 1 0 rfl rfl rfl) m9_91 m9_88 m9_89 m9_90 m1_1 q_Hs_paper ⟨Nat.le_refl _, Nat.le_refl _⟩ hl.1 rfl (Nat.le_of_ble_eq_true rfl) d_HomeSystemLaw_paper_4 ⟨by show 0 + mc ≤ mc; omega, by show 0 + ms ≤ ms; omega⟩ hA (fun E hE => by have h9 := List.mem_singleton.mp hE; subst h9; exact ⟨12, rfl, hTk⟩) ?_ (fun v1 u k1 n1 H locs hp hw => ?_)
  · intro hpc x9 p9 H locs hh9 hp9 hw
    subst hh9
    refine lv_astore_n (lv' := [(3, .ref x9), (0, .ref xh), (1, .int p0), (2, .ref q)]) S.x S.b d_HomeSystemLaw_paper_12 rfl hl (by decide) rfl (fun ls hl => ?_)
    refine lv_iconst (v := 1) S.x S.b d_HomeSystemLaw_paper_13 (by decide) ?_
    exact pg_iret (v := 1) S hr rfl hlk hAe hw (show 0 + 1 ≤ mc from by omega) (show 0 + 6 ≤ ms from by omega) ⟨lv, p9, rfl, Or.inr ⟨rfl, hp9, rfl⟩⟩ d_HomeSystemLaw_paper_14
  refine lv_i2l S.x S.b d_HomeSystemLaw_paper_7 rfl ?_
  refine px_last S hT (ps := wL cs q lv :: u) hw 0 0 rfl rfl (vp_in_iff.mpr (by decide)) d_HomeSystemLaw_paper_8 rfl rfl (fun H locs hw => ?_)
  refine lv_goto (tgt := 15) S.x S.b d_HomeSystemLaw_paper_9 (by decide) ?_
  refine lv_iconst (v := 0) S.x S.b d_HomeSystemLaw_paper_15 (by decide) ?_
  have hb9 := hb v1 u k1 n1 hp
  exact pg_iret (v := 0) S hr rfl hlk hAe hw (show 0 + k1 ≤ mc from by omega) (show 0 + n1 ≤ ms from by omega) ⟨_, u, rfl, Or.inl ⟨rfl, v1, rfl, by rw [Nat.zero_add, Nat.zero_add]; exact hp⟩⟩ d_HomeSystemLaw_paper_16
abbrev b_HomeSystemLaw_paperAt : ByteArray := method_12_code
def y_HomeSystemLaw_paperAt : MethodName := ⟨"HomeSystemLaw", "paperAt", "(LHomeSystem;II[J)I"⟩
theorem d_HomeSystemLaw_paperAt_0 : decode b_HomeSystemLaw_paperAt 0 = .ok (.aload_n 3, 1) := by decide +kernel
theorem d_HomeSystemLaw_paperAt_1 : decode b_HomeSystemLaw_paperAt 1 = .ok (.iconst 0, 1) := by decide +kernel
theorem d_HomeSystemLaw_paperAt_2 : decode b_HomeSystemLaw_paperAt 2 = .ok (.aload_n 0, 1) := by decide +kernel
theorem d_HomeSystemLaw_paperAt_3 : decode b_HomeSystemLaw_paperAt 3 = .ok (.iload_n 1, 1) := by decide +kernel
theorem d_HomeSystemLaw_paperAt_4 : decode b_HomeSystemLaw_paperAt 4 = .ok (.iload_n 2, 1) := by decide +kernel
theorem d_HomeSystemLaw_paperAt_5 : decode b_HomeSystemLaw_paperAt 5 = .ok (.invokevirtual 48, 3) := by decide +kernel
theorem d_HomeSystemLaw_paperAt_8 : decode b_HomeSystemLaw_paperAt 8 = .ok (.i2l, 1) := by decide +kernel
theorem d_HomeSystemLaw_paperAt_9 : decode b_HomeSystemLaw_paperAt 9 = .ok (.lastore, 1) := by decide +kernel
theorem d_HomeSystemLaw_paperAt_10 : decode b_HomeSystemLaw_paperAt 10 = .ok (.goto 7, 3) := by decide +kernel
theorem d_HomeSystemLaw_paperAt_13 : decode b_HomeSystemLaw_paperAt 13 = .ok (.astore 4, 2) := by decide +kernel
theorem d_HomeSystemLaw_paperAt_15 : decode b_HomeSystemLaw_paperAt 15 = .ok (.iconst 1, 1) := by decide +kernel
theorem d_HomeSystemLaw_paperAt_16 : decode b_HomeSystemLaw_paperAt 16 = .ok (.ireturn, 1) := by decide +kernel
theorem d_HomeSystemLaw_paperAt_17 : decode b_HomeSystemLaw_paperAt 17 = .ok (.iconst 0, 1) := by decide +kernel
theorem d_HomeSystemLaw_paperAt_18 : decode b_HomeSystemLaw_paperAt 18 = .ok (.ireturn, 1) := by decide +kernel
theorem q_HomeSystemLaw_paperAt : px_y y_HomeSystemLaw_paperAt 4 := by unfold px_y; decide +kernel
set_option maxHeartbeats 2000000 in
theorem k_paperAt {l : Launch} {D : va_G} {cs : Nat → ClassId} {xh q : Nat} {r : Nat → Nat} {o : Nat → Option Nat} {f : Nat → Int32} {a : Nat → Nat → Int32} {g : Nat → Nat → Option Nat} {pt : List va_W} {lv : Nat → Int64} {P : (Nat → Prop) → State → Heap → Prop} (hG : oG P) {fr lo mc ms : Nat} {post : Int32 → List va_W × Nat × Nat → Prop} {postT : List va_W → Prop} (p0 p1 : Int32) (hM : TgI l y_Hs_paperAt b_Hs_paperAt 4 (.int) D cs fr lo mc ms [.ref xh, .int p0, .int p1] (wd_Hs cs xh r o f a g :: pt) (oX P (wd_Hs cs xh r o f a g :: pt)) ["java/lang/IndexOutOfBoundsException"] post postT) (h1 : 1 ≤ mc) (h6 : 6 ≤ ms) (hb : ∀ v u k n, post v (u, k, n) → k ≤ mc ∧ n ≤ ms) : MkI l y_HomeSystemLaw_paperAt b_HomeSystemLaw_paperAt 5 (.int) [(0, 10, 13, 25)] D cs (fr + 1) (8 + (4 + 11) + lo) mc ms [.ref xh, .int p0, .int p1, .ref q] (wL cs q lv :: wd_Hs cs xh r o f a g :: pt) (oX P (wL cs q lv :: wd_Hs cs xh r o f a g :: pt)) (fun v9 r => ∃ (lv9 : Nat → Int64) (u : List va_W), r.1 = wL cs q lv9 :: u ∧ ((v9.toInt = 0 ∧ ∃ v0 : Int32, lv9 0 = v0.toInt64 ∧ post v0 (u, r.2)) ∨ (v9.toInt = 1 ∧ postT u ∧ r.2 = (1, 6)))) := by
  refine pk_enter (by decide) (Nat.le_of_ble_eq_true rfl) ?_
  intro p e s m below meth c A ls hAe S hr hlk hA hT hX hw hl hadm htb
  have hl : lv_has ls 5 [(0, .ref xh), (1, .int p0), (2, .int p1), (3, .ref q)] := hl
  have hX : P A s s.heap := by rw [hAe]; exact hX
  have hTk : tx_Takes s [Value.ref xh, Value.int p0, Value.int p1, Value.ref q].toArray "HomeSystemLaw" "java/lang/IndexOutOfBoundsException" 5 13 c.exceptionTable.toList := by rw [htb]; exact Or.inr ⟨rfl, by decide, "java/lang/IndexOutOfBoundsException", S.w m3_151, Or.inl ⟨rfl, Cond.castable_spec (show (Cond.castable "java/lang/IndexOutOfBoundsException" "java/lang/IndexOutOfBoundsException").before [Value.ref xh, Value.int p0, Value.int p1, Value.ref q].toArray s = true from va_Nw.use rfl (hT.2.2 _ m3_158n rfl))⟩⟩
  refine lv_aload_n S.x S.b d_HomeSystemLaw_paperAt_0 rfl (lv_at hl 3 rfl) ?_
  refine lv_iconst (v := 0) S.x S.b d_HomeSystemLaw_paperAt_1 (by decide) ?_
  refine lv_aload_n S.x S.b d_HomeSystemLaw_paperAt_2 rfl (lv_at hl 0 rfl) ?_
  refine lv_iload_n S.x S.b d_HomeSystemLaw_paperAt_3 rfl (lv_at hl 1 rfl) ?_
  refine lv_iload_n S.x S.b d_HomeSystemLaw_paperAt_4 rfl (lv_at hl 2 rfl) ?_
  refine tgh_calli (HP := fun h => h = 13) (pr := [wL cs q lv]) (pcs := wd_Hs cs xh r o f a g :: pt) (As := [.int p0, .int p1]) (rest := [.int 0, .ref q]) hM S hT hw (oX_call (P := P) (pr := [wL cs q lv]) hG hw hA hX) (px_recv hT hw 1 0 rfl rfl rfl) m9_98 m9_95 m9_96 m9_97 m1_1 q_Hs_paperAt ⟨Nat.le_refl _, Nat.le_refl _⟩ hl.1 rfl (Nat.le_of_ble_eq_true rfl) d_HomeSystemLaw_paperAt_5 ⟨by show 0 + mc ≤ mc; omega, by show 0 + ms ≤ ms; omega⟩ hA (fun E hE => by have h9 := List.mem_singleton.mp hE; subst h9; exact ⟨13, rfl, hTk⟩) ?_ (fun v1 u k1 n1 H locs hp hw => ?_)
  · intro hpc x9 p9 H locs hh9 hp9 hw
    subst hh9
    refine lv_astore (lv' := [(4, .ref x9), (0, .ref xh), (1, .int p0), (2, .int p1), (3, .ref q)]) S.x S.b d_HomeSystemLaw_paperAt_13 hl (by decide) rfl (fun ls hl => ?_)
    refine lv_iconst (v := 1) S.x S.b d_HomeSystemLaw_paperAt_15 (by decide) ?_
    exact pg_iret (v := 1) S hr rfl hlk hAe hw (show 0 + 1 ≤ mc from by omega) (show 0 + 6 ≤ ms from by omega) ⟨lv, p9, rfl, Or.inr ⟨rfl, hp9, rfl⟩⟩ d_HomeSystemLaw_paperAt_16
  refine lv_i2l S.x S.b d_HomeSystemLaw_paperAt_8 rfl ?_
  refine px_last S hT (ps := wL cs q lv :: u) hw 0 0 rfl rfl (vp_in_iff.mpr (by decide)) d_HomeSystemLaw_paperAt_9 rfl rfl (fun H locs hw => ?_)
  refine lv_goto (tgt := 17) S.x S.b d_HomeSystemLaw_paperAt_10 (by decide) ?_
  refine lv_iconst (v := 0) S.x S.b d_HomeSystemLaw_paperAt_17 (by decide) ?_
  have hb9 := hb v1 u k1 n1 hp
  exact pg_iret (v := 0) S hr rfl hlk hAe hw (show 0 + k1 ≤ mc from by omega) (show 0 + n1 ≤ ms from by omega) ⟨_, u, rfl, Or.inl ⟨rfl, v1, rfl, by rw [Nat.zero_add, Nat.zero_add]; exact hp⟩⟩ d_HomeSystemLaw_paperAt_18
abbrev b_HomeSystemLaw_unread : ByteArray := method_13_code
def y_HomeSystemLaw_unread : MethodName := ⟨"HomeSystemLaw", "unread", "(LHomeSystem;IZ[J)I"⟩
theorem d_HomeSystemLaw_unread_0 : decode b_HomeSystemLaw_unread 0 = .ok (.aload_n 3, 1) := by decide +kernel
theorem d_HomeSystemLaw_unread_1 : decode b_HomeSystemLaw_unread 1 = .ok (.iconst 0, 1) := by decide +kernel
theorem d_HomeSystemLaw_unread_2 : decode b_HomeSystemLaw_unread 2 = .ok (.aload_n 0, 1) := by decide +kernel
theorem d_HomeSystemLaw_unread_3 : decode b_HomeSystemLaw_unread 3 = .ok (.iload_n 1, 1) := by decide +kernel
theorem d_HomeSystemLaw_unread_4 : decode b_HomeSystemLaw_unread 4 = .ok (.iload_n 2, 1) := by decide +kernel
theorem d_HomeSystemLaw_unread_5 : decode b_HomeSystemLaw_unread 5 = .ok (.invokevirtual 52, 3) := by decide +kernel
theorem d_HomeSystemLaw_unread_8 : decode b_HomeSystemLaw_unread 8 = .ok (.i2l, 1) := by decide +kernel
theorem d_HomeSystemLaw_unread_9 : decode b_HomeSystemLaw_unread 9 = .ok (.lastore, 1) := by decide +kernel
theorem d_HomeSystemLaw_unread_10 : decode b_HomeSystemLaw_unread 10 = .ok (.goto 7, 3) := by decide +kernel
theorem d_HomeSystemLaw_unread_13 : decode b_HomeSystemLaw_unread 13 = .ok (.astore 4, 2) := by decide +kernel
theorem d_HomeSystemLaw_unread_15 : decode b_HomeSystemLaw_unread 15 = .ok (.iconst 1, 1) := by decide +kernel
theorem d_HomeSystemLaw_unread_16 : decode b_HomeSystemLaw_unread 16 = .ok (.ireturn, 1) := by decide +kernel
theorem d_HomeSystemLaw_unread_17 : decode b_HomeSystemLaw_unread 17 = .ok (.iconst 0, 1) := by decide +kernel
theorem d_HomeSystemLaw_unread_18 : decode b_HomeSystemLaw_unread 18 = .ok (.ireturn, 1) := by decide +kernel
theorem q_HomeSystemLaw_unread : px_y y_HomeSystemLaw_unread 4 := by unfold px_y; decide +kernel
set_option maxHeartbeats 2000000 in
theorem k_unread {l : Launch} {D : va_G} {cs : Nat → ClassId} {xh q : Nat} {r : Nat → Nat} {o : Nat → Option Nat} {f : Nat → Int32} {a : Nat → Nat → Int32} {g : Nat → Nat → Option Nat} {pt : List va_W} {lv : Nat → Int64} {P : (Nat → Prop) → State → Heap → Prop} (hG : oG P) {fr lo mc ms : Nat} {post : Int32 → List va_W × Nat × Nat → Prop} {postT : List va_W → Prop} (p0 p1 : Int32) (hM : TgI l y_Hs_unread b_Hs_unread 3 (.int) D cs fr lo mc ms [.ref xh, .int p0, .int p1] (wd_Hs cs xh r o f a g :: pt) (oX P (wd_Hs cs xh r o f a g :: pt)) ["java/lang/IndexOutOfBoundsException"] post postT) (h1 : 1 ≤ mc) (h6 : 6 ≤ ms) (hb : ∀ v u k n, post v (u, k, n) → k ≤ mc ∧ n ≤ ms) : MkI l y_HomeSystemLaw_unread b_HomeSystemLaw_unread 5 (.int) [(0, 10, 13, 25)] D cs (fr + 1) (8 + (3 + 11) + lo) mc ms [.ref xh, .int p0, .int p1, .ref q] (wL cs q lv :: wd_Hs cs xh r o f a g :: pt) (oX P (wL cs q lv :: wd_Hs cs xh r o f a g :: pt)) (fun v9 r => ∃ (lv9 : Nat → Int64) (u : List va_W), r.1 = wL cs q lv9 :: u ∧ ((v9.toInt = 0 ∧ ∃ v0 : Int32, lv9 0 = v0.toInt64 ∧ post v0 (u, r.2)) ∨ (v9.toInt = 1 ∧ postT u ∧ r.2 = (1, 6)))) := by
  refine pk_enter (by decide) (Nat.le_of_ble_eq_true rfl) ?_
  intro p e s m below meth c A ls hAe S hr hlk hA hT hX hw hl hadm htb
  have hl : lv_has ls 5 [(0, .ref xh), (1, .int p0), (2, .int p1), (3, .ref q)] := hl
  have hX : P A s s.heap := by rw [hAe]; exact hX
  have hTk : tx_Takes s [Value.ref xh, Value.int p0, Value.int p1, Value.ref q].toArray "HomeSystemLaw" "java/lang/IndexOutOfBoundsException" 5 13 c.exceptionTable.toList := by rw [htb]; exact Or.inr ⟨rfl, by decide, "java/lang/IndexOutOfBoundsException", S.w m3_151, Or.inl ⟨rfl, Cond.castable_spec (show (Cond.castable "java/lang/IndexOutOfBoundsException" "java/lang/IndexOutOfBoundsException").before [Value.ref xh, Value.int p0, Value.int p1, Value.ref q].toArray s = true from va_Nw.use rfl (hT.2.2 _ m3_158n rfl))⟩⟩
  refine lv_aload_n S.x S.b d_HomeSystemLaw_unread_0 rfl (lv_at hl 3 rfl) ?_
  refine lv_iconst (v := 0) S.x S.b d_HomeSystemLaw_unread_1 (by decide) ?_
  refine lv_aload_n S.x S.b d_HomeSystemLaw_unread_2 rfl (lv_at hl 0 rfl) ?_
  refine lv_iload_n S.x S.b d_HomeSystemLaw_unread_3 rfl (lv_at hl 1 rfl) ?_
  refine lv_iload_n S.x S.b d_HomeSystemLaw_unread_4 rfl (lv_at hl 2 rfl) ?_
  refine tgh_calli (HP := fun h => h = 13) (pr := [wL cs q lv]) (pcs := wd_Hs cs xh r o f a g :: pt) (As := [.int p0, .int p1]) (rest := [.int 0, .ref q]) hM S hT hw (oX_call (P := P) (pr := [wL cs q lv]) hG hw hA hX) (px_recv hT hw 1 0 rfl rfl rfl) m9_105 m9_102 m9_103 m9_104 m1_1 q_Hs_unread ⟨Nat.le_refl _, Nat.le_refl _⟩ hl.1 rfl (Nat.le_of_ble_eq_true rfl) d_HomeSystemLaw_unread_5 ⟨by show 0 + mc ≤ mc; omega, by show 0 + ms ≤ ms; omega⟩ hA (fun E hE => by have h9 := List.mem_singleton.mp hE; subst h9; exact ⟨13, rfl, hTk⟩) ?_ (fun v1 u k1 n1 H locs hp hw => ?_)
  · intro hpc x9 p9 H locs hh9 hp9 hw
    subst hh9
    refine lv_astore (lv' := [(4, .ref x9), (0, .ref xh), (1, .int p0), (2, .int p1), (3, .ref q)]) S.x S.b d_HomeSystemLaw_unread_13 hl (by decide) rfl (fun ls hl => ?_)
    refine lv_iconst (v := 1) S.x S.b d_HomeSystemLaw_unread_15 (by decide) ?_
    exact pg_iret (v := 1) S hr rfl hlk hAe hw (show 0 + 1 ≤ mc from by omega) (show 0 + 6 ≤ ms from by omega) ⟨lv, p9, rfl, Or.inr ⟨rfl, hp9, rfl⟩⟩ d_HomeSystemLaw_unread_16
  refine lv_i2l S.x S.b d_HomeSystemLaw_unread_8 rfl ?_
  refine px_last S hT (ps := wL cs q lv :: u) hw 0 0 rfl rfl (vp_in_iff.mpr (by decide)) d_HomeSystemLaw_unread_9 rfl rfl (fun H locs hw => ?_)
  refine lv_goto (tgt := 17) S.x S.b d_HomeSystemLaw_unread_10 (by decide) ?_
  refine lv_iconst (v := 0) S.x S.b d_HomeSystemLaw_unread_17 (by decide) ?_
  have hb9 := hb v1 u k1 n1 hp
  exact pg_iret (v := 0) S hr rfl hlk hAe hw (show 0 + k1 ≤ mc from by omega) (show 0 + n1 ≤ ms from by omega) ⟨_, u, rfl, Or.inl ⟨rfl, v1, rfl, by rw [Nat.zero_add, Nat.zero_add]; exact hp⟩⟩ d_HomeSystemLaw_unread_18
abbrev b_HomeSystemLaw_disk : ByteArray := method_14_code
def y_HomeSystemLaw_disk : MethodName := ⟨"HomeSystemLaw", "disk", "(LHomeSystem;I[J)I"⟩
theorem d_HomeSystemLaw_disk_0 : decode b_HomeSystemLaw_disk 0 = .ok (.aload_n 2, 1) := by decide +kernel
theorem d_HomeSystemLaw_disk_1 : decode b_HomeSystemLaw_disk 1 = .ok (.iconst 0, 1) := by decide +kernel
theorem d_HomeSystemLaw_disk_2 : decode b_HomeSystemLaw_disk 2 = .ok (.aload_n 0, 1) := by decide +kernel
theorem d_HomeSystemLaw_disk_3 : decode b_HomeSystemLaw_disk 3 = .ok (.iload_n 1, 1) := by decide +kernel
theorem d_HomeSystemLaw_disk_4 : decode b_HomeSystemLaw_disk 4 = .ok (.invokevirtual 56, 3) := by decide +kernel
theorem d_HomeSystemLaw_disk_7 : decode b_HomeSystemLaw_disk 7 = .ok (.i2l, 1) := by decide +kernel
theorem d_HomeSystemLaw_disk_8 : decode b_HomeSystemLaw_disk 8 = .ok (.lastore, 1) := by decide +kernel
theorem d_HomeSystemLaw_disk_9 : decode b_HomeSystemLaw_disk 9 = .ok (.goto 6, 3) := by decide +kernel
theorem d_HomeSystemLaw_disk_12 : decode b_HomeSystemLaw_disk 12 = .ok (.astore_n 3, 1) := by decide +kernel
theorem d_HomeSystemLaw_disk_13 : decode b_HomeSystemLaw_disk 13 = .ok (.iconst 1, 1) := by decide +kernel
theorem d_HomeSystemLaw_disk_14 : decode b_HomeSystemLaw_disk 14 = .ok (.ireturn, 1) := by decide +kernel
theorem d_HomeSystemLaw_disk_15 : decode b_HomeSystemLaw_disk 15 = .ok (.iconst 0, 1) := by decide +kernel
theorem d_HomeSystemLaw_disk_16 : decode b_HomeSystemLaw_disk 16 = .ok (.ireturn, 1) := by decide +kernel
theorem q_HomeSystemLaw_disk : px_y y_HomeSystemLaw_disk 3 := by unfold px_y; decide +kernel
set_option maxHeartbeats 2000000 in
theorem k_disk {l : Launch} {D : va_G} {cs : Nat → ClassId} {xh q : Nat} {r : Nat → Nat} {o : Nat → Option Nat} {f : Nat → Int32} {a : Nat → Nat → Int32} {g : Nat → Nat → Option Nat} {pt : List va_W} {lv : Nat → Int64} {P : (Nat → Prop) → State → Heap → Prop} (hG : oG P) {fr lo : Nat} {post : Int32 → List va_W → Prop} {postT : List va_W → Prop} (p0 : Int32) (hM : ThI l y_Hs_disk b_Hs_disk 2 (.int) D cs fr lo [.ref xh, .int p0] (wd_Hs cs xh r o f a g :: pt) (oX P (wd_Hs cs xh r o f a g :: pt)) "java/lang/IndexOutOfBoundsException" post postT) : MkI l y_HomeSystemLaw_disk b_HomeSystemLaw_disk 4 (.int) [(0, 9, 12, 25)] D cs (fr + 1) (8 + (2 + 11) + lo) 1 6 [.ref xh, .int p0, .ref q] (wL cs q lv :: wd_Hs cs xh r o f a g :: pt) (oX P (wL cs q lv :: wd_Hs cs xh r o f a g :: pt)) (fun v9 r => ∃ (lv9 : Nat → Int64) (u : List va_W), r.1 = wL cs q lv9 :: u ∧ ((v9.toInt = 0 ∧ (∃ v0 : Int32, lv9 0 = v0.toInt64 ∧ post v0 u) ∧ r.2 = (0, 0)) ∨ (v9.toInt = 1 ∧ postT u ∧ r.2 = (1, 6)))) := by
  refine pk_enter (by decide) (Nat.le_of_ble_eq_true rfl) ?_
  intro p e s m below meth c A ls hAe S hr hlk hA hT hX hw hl hadm htb
  have hl : lv_has ls 4 [(0, .ref xh), (1, .int p0), (2, .ref q)] := hl
  have hX : P A s s.heap := by rw [hAe]; exact hX
  have hTk : tx_Takes s [Value.ref xh, Value.int p0, Value.ref q].toArray "HomeSystemLaw" "java/lang/IndexOutOfBoundsException" 4 12 c.exceptionTable.toList := by rw [htb]; exact Or.inr ⟨rfl, by decide, "java/lang/IndexOutOfBoundsException", S.w m3_151, Or.inl ⟨rfl, Cond.castable_spec (show (Cond.castable "java/lang/IndexOutOfBoundsException" "java/lang/IndexOutOfBoundsException").before [Value.ref xh, Value.int p0, Value.ref q].toArray s = true from va_Nw.use rfl (hT.2.2 _ m3_158n rfl))⟩⟩
  refine lv_aload_n S.x S.b d_HomeSystemLaw_disk_0 rfl (lv_at hl 2 rfl) ?_
  refine lv_iconst (v := 0) S.x S.b d_HomeSystemLaw_disk_1 (by decide) ?_
  refine lv_aload_n S.x S.b d_HomeSystemLaw_disk_2 rfl (lv_at hl 0 rfl) ?_
  refine lv_iload_n S.x S.b d_HomeSystemLaw_disk_3 rfl (lv_at hl 1 rfl) ?_
  refine thh_calli (HP := fun h => h = 12) (pr := [wL cs q lv]) (pcs := wd_Hs cs xh r o f a g :: pt) (As := [.int p0]) (rest := [.int 0, .ref q]) hM S hT hw (oX_call (P := P) (pr := [wL cs q lv]) hG hw hA hX) (px_recv hT hw 1 0 rfl rfl rfl) m9_116 m9_113 m9_114 m9_115 m1_1 q_Hs_disk ⟨Nat.le_refl _, Nat.le_refl _⟩ hl.1 rfl (Nat.le_of_ble_eq_true rfl) d_HomeSystemLaw_disk_4 ⟨Nat.le_refl _, Nat.le_refl _⟩ hA ⟨12, rfl, hTk⟩ ?_ (fun v1 u H locs hp hw => ?_)
  · intro hpc x9 p9 H locs hh9 hp9 hw
    subst hh9
    refine lv_astore_n (lv' := [(3, .ref x9), (0, .ref xh), (1, .int p0), (2, .ref q)]) S.x S.b d_HomeSystemLaw_disk_12 rfl hl (by decide) rfl (fun ls hl => ?_)
    refine lv_iconst (v := 1) S.x S.b d_HomeSystemLaw_disk_13 (by decide) ?_
    exact pg_iret (v := 1) S hr rfl hlk hAe hw (show 0 + 1 ≤ 1 from by omega) (show 0 + 6 ≤ 6 from by omega) ⟨lv, p9, rfl, Or.inr ⟨rfl, hp9, rfl⟩⟩ d_HomeSystemLaw_disk_14
  refine lv_i2l S.x S.b d_HomeSystemLaw_disk_7 rfl ?_
  refine px_last S hT (ps := wL cs q lv :: u) hw 0 0 rfl rfl (vp_in_iff.mpr (by decide)) d_HomeSystemLaw_disk_8 rfl rfl (fun H locs hw => ?_)
  refine lv_goto (tgt := 15) S.x S.b d_HomeSystemLaw_disk_9 (by decide) ?_
  refine lv_iconst (v := 0) S.x S.b d_HomeSystemLaw_disk_15 (by decide) ?_
  exact pg_iret (v := 0) S hr rfl hlk hAe hw (Nat.zero_le _) (Nat.zero_le _) ⟨_, u, rfl, Or.inl ⟨rfl, ⟨v1, rfl, hp⟩, rfl⟩⟩ d_HomeSystemLaw_disk_16
abbrev b_HomeSystemLaw_setDisk : ByteArray := method_15_code
def y_HomeSystemLaw_setDisk : MethodName := ⟨"HomeSystemLaw", "setDisk", "(LHomeSystem;II)I"⟩
theorem d_HomeSystemLaw_setDisk_0 : decode b_HomeSystemLaw_setDisk 0 = .ok (.aload_n 0, 1) := by decide +kernel
theorem d_HomeSystemLaw_setDisk_1 : decode b_HomeSystemLaw_setDisk 1 = .ok (.iload_n 1, 1) := by decide +kernel
theorem d_HomeSystemLaw_setDisk_2 : decode b_HomeSystemLaw_setDisk 2 = .ok (.iload_n 2, 1) := by decide +kernel
theorem d_HomeSystemLaw_setDisk_3 : decode b_HomeSystemLaw_setDisk 3 = .ok (.invokevirtual 59, 3) := by decide +kernel
theorem d_HomeSystemLaw_setDisk_6 : decode b_HomeSystemLaw_setDisk 6 = .ok (.goto 6, 3) := by decide +kernel
theorem d_HomeSystemLaw_setDisk_9 : decode b_HomeSystemLaw_setDisk 9 = .ok (.astore_n 3, 1) := by decide +kernel
theorem d_HomeSystemLaw_setDisk_10 : decode b_HomeSystemLaw_setDisk 10 = .ok (.iconst 1, 1) := by decide +kernel
theorem d_HomeSystemLaw_setDisk_11 : decode b_HomeSystemLaw_setDisk 11 = .ok (.ireturn, 1) := by decide +kernel
theorem d_HomeSystemLaw_setDisk_12 : decode b_HomeSystemLaw_setDisk 12 = .ok (.iconst 0, 1) := by decide +kernel
theorem d_HomeSystemLaw_setDisk_13 : decode b_HomeSystemLaw_setDisk 13 = .ok (.ireturn, 1) := by decide +kernel
theorem q_HomeSystemLaw_setDisk : px_y y_HomeSystemLaw_setDisk 3 := by unfold px_y; decide +kernel
set_option maxHeartbeats 2000000 in
theorem k_setDisk {l : Launch} {D : va_G} {cs : Nat → ClassId} {xh : Nat} {r : Nat → Nat} {o : Nat → Option Nat} {f : Nat → Int32} {a : Nat → Nat → Int32} {g : Nat → Nat → Option Nat} {pt : List va_W} {P : (Nat → Prop) → State → Heap → Prop} (hG : oG P) {fr lo : Nat} {post : List va_W → Prop} {postT : List va_W → Prop} (p0 p1 : Int32) (hM : ThV l y_Hs_setDisk b_Hs_setDisk 3 D cs fr lo [.ref xh, .int p0, .int p1] (wd_Hs cs xh r o f a g :: pt) (oX P (wd_Hs cs xh r o f a g :: pt)) "java/lang/IndexOutOfBoundsException" post postT) : MkI l y_HomeSystemLaw_setDisk b_HomeSystemLaw_setDisk 4 (.int) [(0, 6, 9, 25)] D cs (fr + 1) (8 + (3 + 11) + lo) 1 6 [.ref xh, .int p0, .int p1] (wd_Hs cs xh r o f a g :: pt) (oX P (wd_Hs cs xh r o f a g :: pt)) (fun v9 r => (v9.toInt = 0 ∧ post r.1 ∧ r.2 = (0, 0)) ∨ (v9.toInt = 1 ∧ postT r.1 ∧ r.2 = (1, 6))) := by
  refine pk_enter (by decide) (Nat.le_of_ble_eq_true rfl) ?_
  intro p e s m below meth c A ls hAe S hr hlk hA hT hX hw hl hadm htb
  have hl : lv_has ls 4 [(0, .ref xh), (1, .int p0), (2, .int p1)] := hl
  have hX : P A s s.heap := by rw [hAe]; exact hX
  have hTk : tx_Takes s [Value.ref xh, Value.int p0, Value.int p1].toArray "HomeSystemLaw" "java/lang/IndexOutOfBoundsException" 3 9 c.exceptionTable.toList := by rw [htb]; exact Or.inr ⟨rfl, by decide, "java/lang/IndexOutOfBoundsException", S.w m3_151, Or.inl ⟨rfl, Cond.castable_spec (show (Cond.castable "java/lang/IndexOutOfBoundsException" "java/lang/IndexOutOfBoundsException").before [Value.ref xh, Value.int p0, Value.int p1].toArray s = true from va_Nw.use rfl (hT.2.2 _ m3_158n rfl))⟩⟩
  refine lv_aload_n S.x S.b d_HomeSystemLaw_setDisk_0 rfl (lv_at hl 0 rfl) ?_
  refine lv_iload_n S.x S.b d_HomeSystemLaw_setDisk_1 rfl (lv_at hl 1 rfl) ?_
  refine lv_iload_n S.x S.b d_HomeSystemLaw_setDisk_2 rfl (lv_at hl 2 rfl) ?_
  refine thh_callv (hpc := 9) (pr := []) (pcs := wd_Hs cs xh r o f a g :: pt) (As := [.int p0, .int p1]) (rest := []) hM S hT hw (oX_call (P := P) (pr := []) hG hw hA hX) (px_recv hT hw 0 0 rfl rfl rfl) m9_123 m9_120 m9_121 m9_122 m1_1 q_Hs_setDisk ⟨Nat.le_refl _, Nat.le_refl _⟩ hl.1 rfl (Nat.le_of_ble_eq_true rfl) d_HomeSystemLaw_setDisk_3 ⟨Nat.le_refl _, Nat.le_refl _⟩ hA hTk ?_ (fun u H locs hp hw => ?_)
  · intro x9 p9 H locs hp9 hw
    refine lv_astore_n (lv' := [(3, .ref x9), (0, .ref xh), (1, .int p0), (2, .int p1)]) S.x S.b d_HomeSystemLaw_setDisk_9 rfl hl (by decide) rfl (fun ls hl => ?_)
    refine lv_iconst (v := 1) S.x S.b d_HomeSystemLaw_setDisk_10 (by decide) ?_
    exact pg_iret (v := 1) S hr rfl hlk hAe hw (show 0 + 1 ≤ 1 from by omega) (show 0 + 6 ≤ 6 from by omega) (Or.inr ⟨rfl, hp9, rfl⟩) d_HomeSystemLaw_setDisk_11
  refine lv_goto (tgt := 12) S.x S.b d_HomeSystemLaw_setDisk_6 (by decide) ?_
  refine lv_iconst (v := 0) S.x S.b d_HomeSystemLaw_setDisk_12 (by decide) ?_
  exact pg_iret (v := 0) S hr rfl hlk hAe hw (Nat.zero_le _) (Nat.zero_le _) (Or.inl ⟨rfl, hp, rfl⟩) d_HomeSystemLaw_setDisk_13
