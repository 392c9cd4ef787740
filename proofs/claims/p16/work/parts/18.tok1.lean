theorem m1_109 : Cond.fieldLink "HomeSystem$Tokens" 43 "HomeSystem$Tokens" "bytes" "[B" ∈ AL := AL_1 (List.mem_of_getElem? (i := 109) rfl) rfl
theorem m1_110 : Cond.fieldLink "HomeSystem$Tokens" 47 "HomeSystem$Tokens" "length" "I" ∈ AL := AL_1 (List.mem_of_getElem? (i := 110) rfl) rfl
abbrev b_Tok_byteAt : ByteArray := prog_12_method_3_code
def y_Tok_byteAt : MethodName := ⟨"HomeSystem$Tokens", "byteAt", "(I)I"⟩
theorem d_Tok_byteAt_0 : decode b_Tok_byteAt 0 = .ok (.aload_n 0, 1) := by decide +kernel
theorem d_Tok_byteAt_1 : decode b_Tok_byteAt 1 = .ok (.getfield 43, 3) := by decide +kernel
theorem d_Tok_byteAt_4 : decode b_Tok_byteAt 4 = .ok (.ifnull 37, 3) := by decide +kernel
theorem d_Tok_byteAt_7 : decode b_Tok_byteAt 7 = .ok (.iload_n 1, 1) := by decide +kernel
theorem d_Tok_byteAt_8 : decode b_Tok_byteAt 8 = .ok (.ifCond .lt 33, 3) := by decide +kernel
theorem d_Tok_byteAt_11 : decode b_Tok_byteAt 11 = .ok (.iload_n 1, 1) := by decide +kernel
theorem d_Tok_byteAt_12 : decode b_Tok_byteAt 12 = .ok (.aload_n 0, 1) := by decide +kernel
theorem d_Tok_byteAt_13 : decode b_Tok_byteAt 13 = .ok (.getfield 47, 3) := by decide +kernel
theorem d_Tok_byteAt_16 : decode b_Tok_byteAt 16 = .ok (.if_icmp .ge 25, 3) := by decide +kernel
theorem d_Tok_byteAt_19 : decode b_Tok_byteAt 19 = .ok (.iload_n 1, 1) := by decide +kernel
theorem d_Tok_byteAt_20 : decode b_Tok_byteAt 20 = .ok (.aload_n 0, 1) := by decide +kernel
theorem d_Tok_byteAt_21 : decode b_Tok_byteAt 21 = .ok (.getfield 43, 3) := by decide +kernel
theorem d_Tok_byteAt_24 : decode b_Tok_byteAt 24 = .ok (.arraylength, 1) := by decide +kernel
theorem d_Tok_byteAt_25 : decode b_Tok_byteAt 25 = .ok (.if_icmp .ge 16, 3) := by decide +kernel
theorem d_Tok_byteAt_28 : decode b_Tok_byteAt 28 = .ok (.aload_n 0, 1) := by decide +kernel
theorem d_Tok_byteAt_29 : decode b_Tok_byteAt 29 = .ok (.getfield 43, 3) := by decide +kernel
theorem d_Tok_byteAt_32 : decode b_Tok_byteAt 32 = .ok (.iload_n 1, 1) := by decide +kernel
theorem d_Tok_byteAt_33 : decode b_Tok_byteAt 33 = .ok (.baload, 1) := by decide +kernel
theorem d_Tok_byteAt_34 : decode b_Tok_byteAt 34 = .ok (.sipush 255, 3) := by decide +kernel
theorem d_Tok_byteAt_37 : decode b_Tok_byteAt 37 = .ok (.iand, 1) := by decide +kernel
theorem d_Tok_byteAt_38 : decode b_Tok_byteAt 38 = .ok (.goto 4, 3) := by decide +kernel
theorem d_Tok_byteAt_41 : decode b_Tok_byteAt 41 = .ok (.iconst (-1), 1) := by decide +kernel
theorem d_Tok_byteAt_42 : decode b_Tok_byteAt 42 = .ok (.ireturn, 1) := by decide +kernel
theorem q_Tok_byteAt : px_y y_Tok_byteAt 1 := by unfold px_y; decide +kernel
set_option maxHeartbeats 4000000 in
set_option maxRecDepth 100000 in
theorem c_Tok_byteAt (l : Launch) (D : va_G) (cs : Nat → ClassId) (h tp : Nat) (r : Nat → Nat) (f : Nat → Int32) (a : Nat → Nat → Int32) (g : Nat → Nat → Option Nat) (tb : Nat → Int32) (i : Int32) (hok : TokOk (f 7) (f 8) (f 10) (f 11) (f 12) (f 13) (f 17) (a 4)) : MetI l y_Tok_byteAt b_Tok_byteAt 2 (.int) D cs 0 0 0 0 [.ref h, .int i] [wd_Tok cs h r (fun _ => some tp) f a g, [(tp, .inl (cs 1, 2048, .inl tb))]] (fun _ => True) (fun v ps => ps = [wd_Tok cs h r (fun _ => some tp) f a g, [(tp, .inl (cs 1, 2048, .inl tb))]] ∧ -1 ≤ v.toInt ∧ v.toInt ≤ 255 ∧ (0 ≤ v.toInt → 0 ≤ i.toInt ∧ i.toInt < (f 7).toInt)) := by
  refine px_enter (by decide) (Nat.le_of_ble_eq_true rfl) ?_
  intro p e s m below meth c A ls hAe S hr hlk hnm hA hT hX hw hl
  have hl : lv_has ls 2 [(0, .ref h), (1, .int i)] := hl
  have li := Int32.le_toInt i
  have ui := Int32.toInt_lt i
  obtain ⟨⟨o1, o2⟩, ⟨o3, o4⟩, ⟨o5, o6⟩, ⟨o7, o8⟩, ⟨o9, o10⟩, ⟨o11, o12⟩, o13, hn4⟩ := hok
  refine lv_aload_n S.x S.b d_Tok_byteAt_0 rfl (lv_at hl 0 rfl) ?_
  refine px_get S k_Tok hT hw 0 0 6 (v := .ref tp) rfl rfl rfl (by decide) m1_109 d_Tok_byteAt_1 ?_
  refine lv_ifnull S.x S.b d_Tok_byteAt_4 ?_
  refine lv_iload_n S.x S.b d_Tok_byteAt_7 rfl (lv_at hl 1 rfl) ?_
  refine lv_if_lt (tgt := 41) S.x S.b d_Tok_byteAt_8 (by decide) (fun c1 => ?_) (fun c1 => ?_)
  · have nc1 : i.toInt < (0) := (i_lt (x := i) (y := 0)).mp c1
    refine lv_iconst (v := (-1)) S.x S.b d_Tok_byteAt_41 (by decide) ?_
    exact px_iret (v := (-1)) S hr rfl hlk hAe hw (Nat.le_of_ble_eq_true rfl) (Nat.le_of_ble_eq_true rfl) (⟨rfl, by decide, by decide, fun h => absurd h (by decide)⟩) d_Tok_byteAt_42
  · have nc1 : ¬ i.toInt < (0) := mt (i_lt (x := i) (y := 0)).mpr c1
    refine lv_iload_n S.x S.b d_Tok_byteAt_11 rfl (lv_at hl 1 rfl) ?_
    refine lv_aload_n S.x S.b d_Tok_byteAt_12 rfl (lv_at hl 0 rfl) ?_
    refine px_get S k_Tok hT hw 0 0 7 (v := .int (f 7)) rfl rfl rfl (by decide) m1_110 d_Tok_byteAt_13 ?_
    refine lv_icmp_ge (tgt := 41) S.x S.b d_Tok_byteAt_16 (by decide) (fun c2 => ?_) (fun c2 => ?_)
    · have nc2 : (f 7).toInt ≤ i.toInt := (i_le (x := (f 7)) (y := i)).mp c2
      refine lv_iconst (v := (-1)) S.x S.b d_Tok_byteAt_41 (by decide) ?_
      exact px_iret (v := (-1)) S hr rfl hlk hAe hw (Nat.le_of_ble_eq_true rfl) (Nat.le_of_ble_eq_true rfl) (⟨rfl, by decide, by decide, fun h => absurd h (by decide)⟩) d_Tok_byteAt_42
    · have nc2 : ¬ (f 7).toInt ≤ i.toInt := mt (i_le (x := (f 7)) (y := i)).mpr c2
      refine lv_iload_n S.x S.b d_Tok_byteAt_19 rfl (lv_at hl 1 rfl) ?_
      refine lv_aload_n S.x S.b d_Tok_byteAt_20 rfl (lv_at hl 0 rfl) ?_
      refine px_get S k_Tok hT hw 0 0 6 (v := .ref tp) rfl rfl rfl (by decide) m1_109 d_Tok_byteAt_21 ?_
      refine px_len S hT hw 1 0 1 rfl rfl rfl (v := 2048) rfl d_Tok_byteAt_24 ?_
      refine lv_icmp_ge (tgt := 41) S.x S.b d_Tok_byteAt_25 (by decide) (fun c3 => ?_) (fun c3 => ?_)
      · have nc3 : (2048) ≤ i.toInt := (i_le (x := 2048) (y := i)).mp c3
        refine lv_iconst (v := (-1)) S.x S.b d_Tok_byteAt_41 (by decide) ?_
        exact px_iret (v := (-1)) S hr rfl hlk hAe hw (Nat.le_of_ble_eq_true rfl) (Nat.le_of_ble_eq_true rfl) (⟨rfl, by decide, by decide, fun h => absurd h (by decide)⟩) d_Tok_byteAt_42
      · have nc3 : ¬ (2048) ≤ i.toInt := mt (i_le (x := 2048) (y := i)).mpr c3
        refine lv_aload_n S.x S.b d_Tok_byteAt_28 rfl (lv_at hl 0 rfl) ?_
        refine px_get S k_Tok hT hw 0 0 6 (v := .ref tp) rfl rfl rfl (by decide) m1_109 d_Tok_byteAt_29 ?_
        refine lv_iload_n S.x S.b d_Tok_byteAt_32 rfl (lv_at hl 1 rfl) ?_
        refine px_bald S hT hw 1 0 (n := 2048) (f := tb) rfl rfl (x := i) (vp_in_iff.mpr (by constructor <;> omega)) d_Tok_byteAt_33 ?_
        refine lv_topi (fun z4 ez4 => ?_)
        have lz4 := Int32.le_toInt z4
        have uz4 := Int32.toInt_lt z4
        refine lv_sipush (v := 255) S.x S.b d_Tok_byteAt_34 (by decide) ?_
        refine lv_iand S.x S.b d_Tok_byteAt_37 ?_
        refine lv_topi (fun z5 ez5 => ?_)
        have lz5 := Int32.le_toInt z5
        have uz5 := Int32.toInt_lt z5
        have bz5 := i_andm z4 (m := 255) 8 (by decide) (by decide)
        rw [← ez5] at bz5
        have wz5 : 0 ≤ z5.toInt ∧ z5.toInt ≤ 255 := by simp only [Nat.reducePow, Int.reducePow] at bz5; omega
        refine lv_goto (tgt := 42) S.x S.b d_Tok_byteAt_38 (by decide) ?_
        exact px_iret (v := z5) S hr rfl hlk hAe hw (Nat.le_of_ble_eq_true rfl) (Nat.le_of_ble_eq_true rfl) (⟨rfl, by omega, by omega, fun _ => by omega⟩) d_Tok_byteAt_42
