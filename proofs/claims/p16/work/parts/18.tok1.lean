theorem m1_109 : Cond.fieldLink "HomeSystem$Tokens" 43 "HomeSystem$Tokens" "bytes" "[B" ∈ AL := AL_1 (List.mem_of_getElem? (i := 109) rfl) rfl
theorem m1_110 : Cond.fieldLink "HomeSystem$Tokens" 47 "HomeSystem$Tokens" "length" "I" ∈ AL := AL_1 (List.mem_of_getElem? (i := 110) rfl) rfl
theorem m3_183 : Cond.methodLink "HomeSystem$Tokens" 73 ⟨"HomeSystem$Tokens", "byteAt", "(I)I"⟩ ∈ AL := AL_3 (List.mem_of_getElem? (i := 183) rfl) rfl
theorem m3_186 : Cond.code ⟨"HomeSystem$Tokens", "byteAt", "(I)I"⟩ prog_12_method_3_code 2 (Option.some FieldType.int) ∈ AL := AL_3 (List.mem_of_getElem? (i := 186) rfl) rfl
theorem m1_2 : Cond.initialized "HomeSystem$Tokens" ∈ AL := AL_1 (List.mem_of_getElem? (i := 2) rfl) rfl
theorem ms_1_6 : Cond.selects "HomeSystem$Tokens" ⟨"HomeSystem$Tokens", "byteAt", "(I)I"⟩ ⟨"HomeSystem$Tokens", "byteAt", "(I)I"⟩ ∈ AL := AL_p (q := (⟨"HomeSystem$Tokens", "byteAt", "(I)I"⟩, 19)) (by unfold lw_privs; exact List.mem_append_left _ (List.mem_of_getElem? (i := 6) rfl))
theorem m3_185 : Cond.instanceMethod ⟨"HomeSystem$Tokens", "byteAt", "(I)I"⟩ ∈ AL := AL_3 (List.mem_of_getElem? (i := 185) rfl) rfl
theorem m1_111 : Cond.fieldLink "HomeSystem$Tokens" 50 "HomeSystem$Tokens" "at" "I" ∈ AL := AL_1 (List.mem_of_getElem? (i := 111) rfl) rfl
theorem z_nar {v : Int32} (h : v.toInt = 0 ∨ v.toInt = 1) : narrow .boolean (.int v) = .int v := by
  rcases h with h | h
  · have e : v = 0 := i_eq.mpr h
    rw [e]; rfl
  · have e : v = 1 := i_eq.mpr h
    rw [e]; rfl
theorem z_int {v : Int32} (h : v = 0 ∨ v = 1) : v.toInt = 0 ∨ v.toInt = 1 := by
  rcases h with h | h <;> rw [h]
  · exact Or.inl rfl
  · exact Or.inr rfl
theorem z_or {v : Int32} (h : v.toInt = 0 ∨ v.toInt = 1) : v = 0 ∨ v = 1 := by
  rcases h with h | h
  · exact Or.inl (i_eq.mpr h)
  · exact Or.inr (i_eq.mpr h)
theorem n4_at {n4 : Nat → Int32} (h : ∀ j : Nat, 0 ≤ (n4 j).toInt ∧ (n4 j).toInt ≤ 1000 + 24 * (j : Int)) {x z : Int32} (h0 : 0 ≤ x.toInt) (e : z = n4 x.toNatClampNeg) : 0 ≤ z.toInt ∧ z.toInt ≤ 1000 + 24 * x.toInt := by
  have h1 := h x.toNatClampNeg
  have h2 : (x.toNatClampNeg : Int) = x.toInt := by
    show ((x.toInt.toNat : Nat) : Int) = x.toInt
    omega
  rw [e]
  omega
theorem n4_up {n4 : Nat → Int32} (h : ∀ j : Nat, 0 ≤ (n4 j).toInt ∧ (n4 j).toInt ≤ 1000 + 24 * (j : Int)) {x z : Int32} (h0 : 0 ≤ x.toInt) (h1 : 0 ≤ z.toInt) (h2 : z.toInt ≤ 1000 + 24 * x.toInt) : ∀ j : Nat, 0 ≤ (upd n4 x.toNatClampNeg z j).toInt ∧ (upd n4 x.toNatClampNeg z j).toInt ≤ 1000 + 24 * (j : Int) := by
  intro j
  have h3 : (x.toNatClampNeg : Int) = x.toInt := by
    show ((x.toInt.toNat : Nat) : Int) = x.toInt
    omega
  by_cases hj : j = x.toNatClampNeg
  · subst hj
    rw [pk_us]
    omega
  · rw [pk_un hj]
    exact h j
abbrev b_Tok_byteAt : ByteArray := prog_12_method_3_code
def y_Tok_byteAt : MethodName := ⟨"HomeSystem$Tokens", "byteAt", "(I)I"⟩
theorem d_Tok_byteAt_0 : decode b_Tok_byteAt 0 = .ok (.aload_n 0, 1) := by decide +kernel
theorem d_Tok_byteAt_1 : decode b_Tok_byteAt 1 = .ok (.getfield 43, 3) := by decide +kernel
theorem d_Tok_byteAt_4 : decode b_Tok_byteAt 4 = .ok (.ifnull 37, 3) := by decide +kernel
theorem d_Tok_byteAt_7 : decode b_Tok_byteAt 7 = .ok (.iload_n 1, 1) := by decide +kernel
theorem d_Tok_byteAt_8 : decode b_Tok_byteAt 8 = .ok (.ifCond .lt 33, 3) := by decide +kernel
theorem d_Tok_byteAt_11 : decode b_Tok_byteAt 11 = .ok (.iload_n 1, 1) := by decide +kernel
theorem d_Tok_byteAt_12 : decode b_Tok_byteAt 12 = .ok (.aload_n 0, 1) := by decide +kernel
theorem d_Tok_byteAt_13 : decode b_Tok_byteAt 13 = .ok (.getfield 47, 3) := by decide +kernel
theorem d_Tok_byteAt_16 : decode b_Tok_byteAt 16 = .ok (.if_icmp .ge 25, 3) := by decide +kernel
theorem d_Tok_byteAt_19 : decode b_Tok_byteAt 19 = .ok (.iload_n 1, 1) := by decide +kernel
theorem d_Tok_byteAt_20 : decode b_Tok_byteAt 20 = .ok (.aload_n 0, 1) := by decide +kernel
theorem d_Tok_byteAt_21 : decode b_Tok_byteAt 21 = .ok (.getfield 43, 3) := by decide +kernel
theorem d_Tok_byteAt_24 : decode b_Tok_byteAt 24 = .ok (.arraylength, 1) := by decide +kernel
theorem d_Tok_byteAt_25 : decode b_Tok_byteAt 25 = .ok (.if_icmp .ge 16, 3) := by decide +kernel
theorem d_Tok_byteAt_28 : decode b_Tok_byteAt 28 = .ok (.aload_n 0, 1) := by decide +kernel
theorem d_Tok_byteAt_29 : decode b_Tok_byteAt 29 = .ok (.getfield 43, 3) := by decide +kernel
theorem d_Tok_byteAt_32 : decode b_Tok_byteAt 32 = .ok (.iload_n 1, 1) := by decide +kernel
theorem d_Tok_byteAt_33 : decode b_Tok_byteAt 33 = .ok (.baload, 1) := by decide +kernel
theorem d_Tok_byteAt_34 : decode b_Tok_byteAt 34 = .ok (.sipush 255, 3) := by decide +kernel
theorem d_Tok_byteAt_37 : decode b_Tok_byteAt 37 = .ok (.iand, 1) := by decide +kernel
theorem d_Tok_byteAt_38 : decode b_Tok_byteAt 38 = .ok (.goto 4, 3) := by decide +kernel
theorem d_Tok_byteAt_41 : decode b_Tok_byteAt 41 = .ok (.iconst (-1), 1) := by decide +kernel
theorem d_Tok_byteAt_42 : decode b_Tok_byteAt 42 = .ok (.ireturn, 1) := by decide +kernel
theorem q_Tok_byteAt : px_y y_Tok_byteAt 1 := by unfold px_y; decide +kernel
set_option maxHeartbeats 4000000 in
set_option maxRecDepth 100000 in
theorem c_Tok_byteAt (l : Launch) (D : va_G) (cs : Nat → ClassId) (h : Nat) (r : Nat → Nat) (tp : Nat) (tb : Nat → Int32) (f : Nat → Int32) (a : Nat → Nat → Int32) (g : Nat → Nat → Option Nat) (i : Int32) (hok : TokOk (f 7) (f 8) (f 10) (f 11) (f 12) (f 13) (f 17) (a 4)) : MetI l y_Tok_byteAt b_Tok_byteAt 2 (.int) D cs 0 0 0 0 [.ref h, .int i] [wd_Tok cs h r (fun _ => some tp) f a g, [(tp, .inl (cs 1, 2048, .inl tb))]] (fun _ => True) (fun v ps => (ps = [wd_Tok cs h r (fun _ => some tp) f a g, [(tp, .inl (cs 1, 2048, .inl tb))]]) ∧ (-1 ≤ v.toInt) ∧ (v.toInt ≤ 255) ∧ (0 ≤ v.toInt → 0 ≤ i.toInt ∧ i.toInt < (f 7).toInt)) := by
  refine px_enter (by decide) (Nat.le_of_ble_eq_true rfl) ?_
  intro p e s m below meth c A ls hAe S hr hlk hnm hA hT hX hw hl
  have hl : lv_has ls 2 [(0, .ref h), (1, .int i)] := hl
  have li := Int32.le_toInt i
  have ui := Int32.toInt_lt i
  obtain ⟨⟨o1, o2⟩, ⟨o3, o4⟩, ⟨o5, o6⟩, ⟨o7, o8⟩, ⟨o9, o10⟩, ⟨o11, o12⟩, o13, hn4⟩ := hok
  refine lv_aload_n S.x S.b d_Tok_byteAt_0 rfl (lv_at hl 0 rfl) ?_
  refine px_get S k_Tok hT hw 0 0 6 (v := .ref tp) rfl rfl rfl (by decide) m1_109 d_Tok_byteAt_1 ?_
  refine lv_ifnull S.x S.b d_Tok_byteAt_4 ?_
  refine lv_iload_n S.x S.b d_Tok_byteAt_7 rfl (lv_at hl 1 rfl) ?_
  refine lv_if_lt (tgt := 41) S.x S.b d_Tok_byteAt_8 (by decide) (fun c1 => ?_) (fun c1 => ?_)
  · have nc1 : i.toInt < (0) := (i_lt (x := i) (y := 0)).mp c1
    refine lv_iconst (v := (-1)) S.x S.b d_Tok_byteAt_41 (by decide) ?_
    exact px_iret (v := (-1)) S hr rfl hlk hAe hw (Nat.le_of_ble_eq_true rfl) (Nat.le_of_ble_eq_true rfl) (⟨rfl, (show -1 ≤ (-1) from by omega), (show (-1) ≤ 255 from by omega), (show 0 ≤ (-1) → 0 ≤ i.toInt ∧ i.toInt < (f 7).toInt from by omega)⟩) d_Tok_byteAt_42
  · have nc1 : ¬ i.toInt < (0) := mt (i_lt (x := i) (y := 0)).mpr c1
    refine lv_iload_n S.x S.b d_Tok_byteAt_11 rfl (lv_at hl 1 rfl) ?_
    refine lv_aload_n S.x S.b d_Tok_byteAt_12 rfl (lv_at hl 0 rfl) ?_
    refine px_get S k_Tok hT hw 0 0 7 (v := .int (f 7)) rfl rfl rfl (by decide) m1_110 d_Tok_byteAt_13 ?_
    refine lv_icmp_ge (tgt := 41) S.x S.b d_Tok_byteAt_16 (by decide) (fun c2 => ?_) (fun c2 => ?_)
    · have nc2 : (f 7).toInt ≤ i.toInt := (i_le (x := (f 7)) (y := i)).mp c2
      refine lv_iconst (v := (-1)) S.x S.b d_Tok_byteAt_41 (by decide) ?_
      exact px_iret (v := (-1)) S hr rfl hlk hAe hw (Nat.le_of_ble_eq_true rfl) (Nat.le_of_ble_eq_true rfl) (⟨rfl, (show -1 ≤ (-1) from by omega), (show (-1) ≤ 255 from by omega), (show 0 ≤ (-1) → 0 ≤ i.toInt ∧ i.toInt < (f 7).toInt from by omega)⟩) d_Tok_byteAt_42
    · have nc2 : ¬ (f 7).toInt ≤ i.toInt := mt (i_le (x := (f 7)) (y := i)).mpr c2
      refine lv_iload_n S.x S.b d_Tok_byteAt_19 rfl (lv_at hl 1 rfl) ?_
      refine lv_aload_n S.x S.b d_Tok_byteAt_20 rfl (lv_at hl 0 rfl) ?_
      refine px_get S k_Tok hT hw 0 0 6 (v := .ref tp) rfl rfl rfl (by decide) m1_109 d_Tok_byteAt_21 ?_
      refine px_len S hT hw 1 0 1 rfl rfl rfl (v := 2048) rfl d_Tok_byteAt_24 ?_
      refine lv_icmp_ge (tgt := 41) S.x S.b d_Tok_byteAt_25 (by decide) (fun c3 => ?_) (fun c3 => ?_)
      · have nc3 : (2048) ≤ i.toInt := (i_le (x := 2048) (y := i)).mp c3
        refine lv_iconst (v := (-1)) S.x S.b d_Tok_byteAt_41 (by decide) ?_
        exact px_iret (v := (-1)) S hr rfl hlk hAe hw (Nat.le_of_ble_eq_true rfl) (Nat.le_of_ble_eq_true rfl) (⟨rfl, (show -1 ≤ (-1) from by omega), (show (-1) ≤ 255 from by omega), (show 0 ≤ (-1) → 0 ≤ i.toInt ∧ i.toInt < (f 7).toInt from by omega)⟩) d_Tok_byteAt_42
      · have nc3 : ¬ (2048) ≤ i.toInt := mt (i_le (x := 2048) (y := i)).mpr c3
        refine lv_aload_n S.x S.b d_Tok_byteAt_28 rfl (lv_at hl 0 rfl) ?_
        refine px_get S k_Tok hT hw 0 0 6 (v := .ref tp) rfl rfl rfl (by decide) m1_109 d_Tok_byteAt_29 ?_
        refine lv_iload_n S.x S.b d_Tok_byteAt_32 rfl (lv_at hl 1 rfl) ?_
        refine px_bald S hT hw 1 0 (n := 2048) (f := tb) rfl rfl (x := i) (vp_in_iff.mpr (by constructor <;> omega)) d_Tok_byteAt_33 ?_
        refine lv_topi (fun z4 ez4 => ?_)
        have lz4 := Int32.le_toInt z4
        have uz4 := Int32.toInt_lt z4
        refine lv_sipush (v := 255) S.x S.b d_Tok_byteAt_34 (by decide) ?_
        refine lv_iand S.x S.b d_Tok_byteAt_37 ?_
        refine lv_topi (fun z5 ez5 => ?_)
        have lz5 := Int32.le_toInt z5
        have uz5 := Int32.toInt_lt z5
        have bz5 := i_andm z4 (m := 255) 8 (by decide) (by decide)
        rw [← ez5] at bz5
        have wz5 : 0 ≤ z5.toInt ∧ z5.toInt ≤ 255 := by simp only [Nat.reducePow, Int.reducePow] at bz5; omega
        refine lv_goto (tgt := 42) S.x S.b d_Tok_byteAt_38 (by decide) ?_
        exact px_iret (v := z5) S hr rfl hlk hAe hw (Nat.le_of_ble_eq_true rfl) (Nat.le_of_ble_eq_true rfl) (⟨rfl, (show -1 ≤ z5.toInt from by omega), (show z5.toInt ≤ 255 from by omega), (show 0 ≤ z5.toInt → 0 ≤ i.toInt ∧ i.toInt < (f 7).toInt from by omega)⟩) d_Tok_byteAt_42
abbrev b_Tok_isLetter : ByteArray := prog_12_method_8_code
def y_Tok_isLetter : MethodName := ⟨"HomeSystem$Tokens", "isLetter", "(I)Z"⟩
theorem d_Tok_isLetter_0 : decode b_Tok_isLetter 0 = .ok (.iload_n 0, 1) := by decide +kernel
theorem d_Tok_isLetter_1 : decode b_Tok_isLetter 1 = .ok (.bipush 97, 2) := by decide +kernel
theorem d_Tok_isLetter_3 : decode b_Tok_isLetter 3 = .ok (.if_icmp .lt 9, 3) := by decide +kernel
theorem d_Tok_isLetter_6 : decode b_Tok_isLetter 6 = .ok (.iload_n 0, 1) := by decide +kernel
theorem d_Tok_isLetter_7 : decode b_Tok_isLetter 7 = .ok (.bipush 122, 2) := by decide +kernel
theorem d_Tok_isLetter_9 : decode b_Tok_isLetter 9 = .ok (.if_icmp .le 21, 3) := by decide +kernel
theorem d_Tok_isLetter_12 : decode b_Tok_isLetter 12 = .ok (.iload_n 0, 1) := by decide +kernel
theorem d_Tok_isLetter_13 : decode b_Tok_isLetter 13 = .ok (.bipush 65, 2) := by decide +kernel
theorem d_Tok_isLetter_15 : decode b_Tok_isLetter 15 = .ok (.if_icmp .lt 9, 3) := by decide +kernel
theorem d_Tok_isLetter_18 : decode b_Tok_isLetter 18 = .ok (.iload_n 0, 1) := by decide +kernel
theorem d_Tok_isLetter_19 : decode b_Tok_isLetter 19 = .ok (.bipush 90, 2) := by decide +kernel
theorem d_Tok_isLetter_21 : decode b_Tok_isLetter 21 = .ok (.if_icmp .le 9, 3) := by decide +kernel
theorem d_Tok_isLetter_24 : decode b_Tok_isLetter 24 = .ok (.iload_n 0, 1) := by decide +kernel
theorem d_Tok_isLetter_25 : decode b_Tok_isLetter 25 = .ok (.bipush 95, 2) := by decide +kernel
theorem d_Tok_isLetter_27 : decode b_Tok_isLetter 27 = .ok (.if_icmp .ne 7, 3) := by decide +kernel
theorem d_Tok_isLetter_30 : decode b_Tok_isLetter 30 = .ok (.iconst 1, 1) := by decide +kernel
theorem d_Tok_isLetter_31 : decode b_Tok_isLetter 31 = .ok (.goto 4, 3) := by decide +kernel
theorem d_Tok_isLetter_34 : decode b_Tok_isLetter 34 = .ok (.iconst 0, 1) := by decide +kernel
theorem d_Tok_isLetter_35 : decode b_Tok_isLetter 35 = .ok (.ireturn, 1) := by decide +kernel
theorem q_Tok_isLetter : px_y y_Tok_isLetter 1 := by unfold px_y; decide +kernel
set_option maxHeartbeats 4000000 in
set_option maxRecDepth 100000 in
theorem c_Tok_isLetter (l : Launch) (D : va_G) (cs : Nat → ClassId)  (i : Int32)  : MetI l y_Tok_isLetter b_Tok_isLetter 1 (.boolean) D cs 0 0 0 0 [.int i] [] (fun _ => True) (fun v ps => (ps = []) ∧ (v = 0 ∨ v = 1)) := by
  refine px_enter (by decide) (Nat.le_of_ble_eq_true rfl) ?_
  intro p e s m below meth c A ls hAe S hr hlk hnm hA hT hX hw hl
  have hl : lv_has ls 1 [(0, .int i)] := hl
  have li := Int32.le_toInt i
  have ui := Int32.toInt_lt i
  refine lv_iload_n S.x S.b d_Tok_isLetter_0 rfl (lv_at hl 0 rfl) ?_
  refine lv_bipush (v := 97) S.x S.b d_Tok_isLetter_1 (by decide) ?_
  refine lv_icmp_lt (tgt := 12) S.x S.b d_Tok_isLetter_3 (by decide) (fun c1 => ?_) (fun c1 => ?_)
  · have nc1 : i.toInt < (97) := (i_lt (x := i) (y := 97)).mp c1
    refine lv_iload_n S.x S.b d_Tok_isLetter_12 rfl (lv_at hl 0 rfl) ?_
    refine lv_bipush (v := 65) S.x S.b d_Tok_isLetter_13 (by decide) ?_
    refine lv_icmp_lt (tgt := 24) S.x S.b d_Tok_isLetter_15 (by decide) (fun c2 => ?_) (fun c2 => ?_)
    · have nc2 : i.toInt < (65) := (i_lt (x := i) (y := 65)).mp c2
      refine lv_iload_n S.x S.b d_Tok_isLetter_24 rfl (lv_at hl 0 rfl) ?_
      refine lv_bipush (v := 95) S.x S.b d_Tok_isLetter_25 (by decide) ?_
      refine lv_icmp_ne (tgt := 34) S.x S.b d_Tok_isLetter_27 (by decide) (fun c3 => ?_) (fun c3 => ?_)
      · have nc3 : ¬ i.toInt = (95) := mt (i_eq (x := i) (y := 95)).mpr c3
        refine lv_iconst (v := 0) S.x S.b d_Tok_isLetter_34 (by decide) ?_
        exact px_iret (v := 0) S hr rfl hlk hAe hw (Nat.le_of_ble_eq_true rfl) (Nat.le_of_ble_eq_true rfl) (⟨rfl, (show (0 : Int32) = 0 ∨ (0 : Int32) = 1 from by first | exact Or.inl rfl | exact Or.inr rfl | exact z_or (by omega))⟩) d_Tok_isLetter_35
      · have nc3 : i.toInt = (95) := (i_eq (x := i) (y := 95)).mp c3
        refine lv_iconst (v := 1) S.x S.b d_Tok_isLetter_30 (by decide) ?_
        refine lv_goto (tgt := 35) S.x S.b d_Tok_isLetter_31 (by decide) ?_
        exact px_iret (v := 1) S hr rfl hlk hAe hw (Nat.le_of_ble_eq_true rfl) (Nat.le_of_ble_eq_true rfl) (⟨rfl, (show (1 : Int32) = 0 ∨ (1 : Int32) = 1 from by first | exact Or.inl rfl | exact Or.inr rfl | exact z_or (by omega))⟩) d_Tok_isLetter_35
    · have nc2 : ¬ i.toInt < (65) := mt (i_lt (x := i) (y := 65)).mpr c2
      refine lv_iload_n S.x S.b d_Tok_isLetter_18 rfl (lv_at hl 0 rfl) ?_
      refine lv_bipush (v := 90) S.x S.b d_Tok_isLetter_19 (by decide) ?_
      refine lv_icmp_le (tgt := 30) S.x S.b d_Tok_isLetter_21 (by decide) (fun c4 => ?_) (fun c4 => ?_)
      · have nc4 : i.toInt ≤ (90) := (i_le (x := i) (y := 90)).mp c4
        refine lv_iconst (v := 1) S.x S.b d_Tok_isLetter_30 (by decide) ?_
        refine lv_goto (tgt := 35) S.x S.b d_Tok_isLetter_31 (by decide) ?_
        exact px_iret (v := 1) S hr rfl hlk hAe hw (Nat.le_of_ble_eq_true rfl) (Nat.le_of_ble_eq_true rfl) (⟨rfl, (show (1 : Int32) = 0 ∨ (1 : Int32) = 1 from by first | exact Or.inl rfl | exact Or.inr rfl | exact z_or (by omega))⟩) d_Tok_isLetter_35
      · have nc4 : ¬ i.toInt ≤ (90) := mt (i_le (x := i) (y := 90)).mpr c4
        refine lv_iload_n S.x S.b d_Tok_isLetter_24 rfl (lv_at hl 0 rfl) ?_
        refine lv_bipush (v := 95) S.x S.b d_Tok_isLetter_25 (by decide) ?_
        refine lv_icmp_ne (tgt := 34) S.x S.b d_Tok_isLetter_27 (by decide) (fun c5 => ?_) (fun c5 => ?_)
        · have nc5 : ¬ i.toInt = (95) := mt (i_eq (x := i) (y := 95)).mpr c5
          refine lv_iconst (v := 0) S.x S.b d_Tok_isLetter_34 (by decide) ?_
          exact px_iret (v := 0) S hr rfl hlk hAe hw (Nat.le_of_ble_eq_true rfl) (Nat.le_of_ble_eq_true rfl) (⟨rfl, (show (0 : Int32) = 0 ∨ (0 : Int32) = 1 from by first | exact Or.inl rfl | exact Or.inr rfl | exact z_or (by omega))⟩) d_Tok_isLetter_35
        · have nc5 : i.toInt = (95) := (i_eq (x := i) (y := 95)).mp c5
          refine lv_iconst (v := 1) S.x S.b d_Tok_isLetter_30 (by decide) ?_
          refine lv_goto (tgt := 35) S.x S.b d_Tok_isLetter_31 (by decide) ?_
          exact px_iret (v := 1) S hr rfl hlk hAe hw (Nat.le_of_ble_eq_true rfl) (Nat.le_of_ble_eq_true rfl) (⟨rfl, (show (1 : Int32) = 0 ∨ (1 : Int32) = 1 from by first | exact Or.inl rfl | exact Or.inr rfl | exact z_or (by omega))⟩) d_Tok_isLetter_35
  · have nc1 : ¬ i.toInt < (97) := mt (i_lt (x := i) (y := 97)).mpr c1
    refine lv_iload_n S.x S.b d_Tok_isLetter_6 rfl (lv_at hl 0 rfl) ?_
    refine lv_bipush (v := 122) S.x S.b d_Tok_isLetter_7 (by decide) ?_
    refine lv_icmp_le (tgt := 30) S.x S.b d_Tok_isLetter_9 (by decide) (fun c6 => ?_) (fun c6 => ?_)
    · have nc6 : i.toInt ≤ (122) := (i_le (x := i) (y := 122)).mp c6
      refine lv_iconst (v := 1) S.x S.b d_Tok_isLetter_30 (by decide) ?_
      refine lv_goto (tgt := 35) S.x S.b d_Tok_isLetter_31 (by decide) ?_
      exact px_iret (v := 1) S hr rfl hlk hAe hw (Nat.le_of_ble_eq_true rfl) (Nat.le_of_ble_eq_true rfl) (⟨rfl, (show (1 : Int32) = 0 ∨ (1 : Int32) = 1 from by first | exact Or.inl rfl | exact Or.inr rfl | exact z_or (by omega))⟩) d_Tok_isLetter_35
    · have nc6 : ¬ i.toInt ≤ (122) := mt (i_le (x := i) (y := 122)).mpr c6
      refine lv_iload_n S.x S.b d_Tok_isLetter_12 rfl (lv_at hl 0 rfl) ?_
      refine lv_bipush (v := 65) S.x S.b d_Tok_isLetter_13 (by decide) ?_
      refine lv_icmp_lt (tgt := 24) S.x S.b d_Tok_isLetter_15 (by decide) (fun c7 => ?_) (fun c7 => ?_)
      · have nc7 : i.toInt < (65) := (i_lt (x := i) (y := 65)).mp c7
        refine lv_iload_n S.x S.b d_Tok_isLetter_24 rfl (lv_at hl 0 rfl) ?_
        refine lv_bipush (v := 95) S.x S.b d_Tok_isLetter_25 (by decide) ?_
        refine lv_icmp_ne (tgt := 34) S.x S.b d_Tok_isLetter_27 (by decide) (fun c8 => ?_) (fun c8 => ?_)
        · have nc8 : ¬ i.toInt = (95) := mt (i_eq (x := i) (y := 95)).mpr c8
          refine lv_iconst (v := 0) S.x S.b d_Tok_isLetter_34 (by decide) ?_
          exact px_iret (v := 0) S hr rfl hlk hAe hw (Nat.le_of_ble_eq_true rfl) (Nat.le_of_ble_eq_true rfl) (⟨rfl, (show (0 : Int32) = 0 ∨ (0 : Int32) = 1 from by first | exact Or.inl rfl | exact Or.inr rfl | exact z_or (by omega))⟩) d_Tok_isLetter_35
        · have nc8 : i.toInt = (95) := (i_eq (x := i) (y := 95)).mp c8
          refine lv_iconst (v := 1) S.x S.b d_Tok_isLetter_30 (by decide) ?_
          refine lv_goto (tgt := 35) S.x S.b d_Tok_isLetter_31 (by decide) ?_
          exact px_iret (v := 1) S hr rfl hlk hAe hw (Nat.le_of_ble_eq_true rfl) (Nat.le_of_ble_eq_true rfl) (⟨rfl, (show (1 : Int32) = 0 ∨ (1 : Int32) = 1 from by first | exact Or.inl rfl | exact Or.inr rfl | exact z_or (by omega))⟩) d_Tok_isLetter_35
      · have nc7 : ¬ i.toInt < (65) := mt (i_lt (x := i) (y := 65)).mpr c7
        refine lv_iload_n S.x S.b d_Tok_isLetter_18 rfl (lv_at hl 0 rfl) ?_
        refine lv_bipush (v := 90) S.x S.b d_Tok_isLetter_19 (by decide) ?_
        refine lv_icmp_le (tgt := 30) S.x S.b d_Tok_isLetter_21 (by decide) (fun c9 => ?_) (fun c9 => ?_)
        · have nc9 : i.toInt ≤ (90) := (i_le (x := i) (y := 90)).mp c9
          refine lv_iconst (v := 1) S.x S.b d_Tok_isLetter_30 (by decide) ?_
          refine lv_goto (tgt := 35) S.x S.b d_Tok_isLetter_31 (by decide) ?_
          exact px_iret (v := 1) S hr rfl hlk hAe hw (Nat.le_of_ble_eq_true rfl) (Nat.le_of_ble_eq_true rfl) (⟨rfl, (show (1 : Int32) = 0 ∨ (1 : Int32) = 1 from by first | exact Or.inl rfl | exact Or.inr rfl | exact z_or (by omega))⟩) d_Tok_isLetter_35
        · have nc9 : ¬ i.toInt ≤ (90) := mt (i_le (x := i) (y := 90)).mpr c9
          refine lv_iload_n S.x S.b d_Tok_isLetter_24 rfl (lv_at hl 0 rfl) ?_
          refine lv_bipush (v := 95) S.x S.b d_Tok_isLetter_25 (by decide) ?_
          refine lv_icmp_ne (tgt := 34) S.x S.b d_Tok_isLetter_27 (by decide) (fun c10 => ?_) (fun c10 => ?_)
          · have nc10 : ¬ i.toInt = (95) := mt (i_eq (x := i) (y := 95)).mpr c10
            refine lv_iconst (v := 0) S.x S.b d_Tok_isLetter_34 (by decide) ?_
            exact px_iret (v := 0) S hr rfl hlk hAe hw (Nat.le_of_ble_eq_true rfl) (Nat.le_of_ble_eq_true rfl) (⟨rfl, (show (0 : Int32) = 0 ∨ (0 : Int32) = 1 from by first | exact Or.inl rfl | exact Or.inr rfl | exact z_or (by omega))⟩) d_Tok_isLetter_35
          · have nc10 : i.toInt = (95) := (i_eq (x := i) (y := 95)).mp c10
            refine lv_iconst (v := 1) S.x S.b d_Tok_isLetter_30 (by decide) ?_
            refine lv_goto (tgt := 35) S.x S.b d_Tok_isLetter_31 (by decide) ?_
            exact px_iret (v := 1) S hr rfl hlk hAe hw (Nat.le_of_ble_eq_true rfl) (Nat.le_of_ble_eq_true rfl) (⟨rfl, (show (1 : Int32) = 0 ∨ (1 : Int32) = 1 from by first | exact Or.inl rfl | exact Or.inr rfl | exact z_or (by omega))⟩) d_Tok_isLetter_35
abbrev b_Tok_isDigit : ByteArray := prog_12_method_9_code
def y_Tok_isDigit : MethodName := ⟨"HomeSystem$Tokens", "isDigit", "(I)Z"⟩
theorem d_Tok_isDigit_0 : decode b_Tok_isDigit 0 = .ok (.iload_n 0, 1) := by decide +kernel
theorem d_Tok_isDigit_1 : decode b_Tok_isDigit 1 = .ok (.bipush 48, 2) := by decide +kernel
theorem d_Tok_isDigit_3 : decode b_Tok_isDigit 3 = .ok (.if_icmp .lt 13, 3) := by decide +kernel
theorem d_Tok_isDigit_6 : decode b_Tok_isDigit 6 = .ok (.iload_n 0, 1) := by decide +kernel
theorem d_Tok_isDigit_7 : decode b_Tok_isDigit 7 = .ok (.bipush 57, 2) := by decide +kernel
theorem d_Tok_isDigit_9 : decode b_Tok_isDigit 9 = .ok (.if_icmp .gt 7, 3) := by decide +kernel
theorem d_Tok_isDigit_12 : decode b_Tok_isDigit 12 = .ok (.iconst 1, 1) := by decide +kernel
theorem d_Tok_isDigit_13 : decode b_Tok_isDigit 13 = .ok (.goto 4, 3) := by decide +kernel
theorem d_Tok_isDigit_16 : decode b_Tok_isDigit 16 = .ok (.iconst 0, 1) := by decide +kernel
theorem d_Tok_isDigit_17 : decode b_Tok_isDigit 17 = .ok (.ireturn, 1) := by decide +kernel
theorem q_Tok_isDigit : px_y y_Tok_isDigit 1 := by unfold px_y; decide +kernel
set_option maxHeartbeats 4000000 in
set_option maxRecDepth 100000 in
theorem c_Tok_isDigit (l : Launch) (D : va_G) (cs : Nat → ClassId)  (i : Int32)  : MetI l y_Tok_isDigit b_Tok_isDigit 1 (.boolean) D cs 0 0 0 0 [.int i] [] (fun _ => True) (fun v ps => (ps = []) ∧ (v = 0 ∨ v = 1)) := by
  refine px_enter (by decide) (Nat.le_of_ble_eq_true rfl) ?_
  intro p e s m below meth c A ls hAe S hr hlk hnm hA hT hX hw hl
  have hl : lv_has ls 1 [(0, .int i)] := hl
  have li := Int32.le_toInt i
  have ui := Int32.toInt_lt i
  refine lv_iload_n S.x S.b d_Tok_isDigit_0 rfl (lv_at hl 0 rfl) ?_
  refine lv_bipush (v := 48) S.x S.b d_Tok_isDigit_1 (by decide) ?_
  refine lv_icmp_lt (tgt := 16) S.x S.b d_Tok_isDigit_3 (by decide) (fun c1 => ?_) (fun c1 => ?_)
  · have nc1 : i.toInt < (48) := (i_lt (x := i) (y := 48)).mp c1
    refine lv_iconst (v := 0) S.x S.b d_Tok_isDigit_16 (by decide) ?_
    exact px_iret (v := 0) S hr rfl hlk hAe hw (Nat.le_of_ble_eq_true rfl) (Nat.le_of_ble_eq_true rfl) (⟨rfl, (show (0 : Int32) = 0 ∨ (0 : Int32) = 1 from by first | exact Or.inl rfl | exact Or.inr rfl | exact z_or (by omega))⟩) d_Tok_isDigit_17
  · have nc1 : ¬ i.toInt < (48) := mt (i_lt (x := i) (y := 48)).mpr c1
    refine lv_iload_n S.x S.b d_Tok_isDigit_6 rfl (lv_at hl 0 rfl) ?_
    refine lv_bipush (v := 57) S.x S.b d_Tok_isDigit_7 (by decide) ?_
    refine lv_icmp_gt (tgt := 16) S.x S.b d_Tok_isDigit_9 (by decide) (fun c2 => ?_) (fun c2 => ?_)
    · have nc2 : (57) < i.toInt := (i_lt (x := 57) (y := i)).mp c2
      refine lv_iconst (v := 0) S.x S.b d_Tok_isDigit_16 (by decide) ?_
      exact px_iret (v := 0) S hr rfl hlk hAe hw (Nat.le_of_ble_eq_true rfl) (Nat.le_of_ble_eq_true rfl) (⟨rfl, (show (0 : Int32) = 0 ∨ (0 : Int32) = 1 from by first | exact Or.inl rfl | exact Or.inr rfl | exact z_or (by omega))⟩) d_Tok_isDigit_17
    · have nc2 : ¬ (57) < i.toInt := mt (i_lt (x := 57) (y := i)).mpr c2
      refine lv_iconst (v := 1) S.x S.b d_Tok_isDigit_12 (by decide) ?_
      refine lv_goto (tgt := 17) S.x S.b d_Tok_isDigit_13 (by decide) ?_
      exact px_iret (v := 1) S hr rfl hlk hAe hw (Nat.le_of_ble_eq_true rfl) (Nat.le_of_ble_eq_true rfl) (⟨rfl, (show (1 : Int32) = 0 ∨ (1 : Int32) = 1 from by first | exact Or.inl rfl | exact Or.inr rfl | exact z_or (by omega))⟩) d_Tok_isDigit_17
abbrev b_Tok_quotedWidth : ByteArray := prog_12_method_16_code
def y_Tok_quotedWidth : MethodName := ⟨"HomeSystem$Tokens", "quotedWidth", "(I)I"⟩
theorem d_Tok_quotedWidth_0 : decode b_Tok_quotedWidth 0 = .ok (.aload_n 0, 1) := by decide +kernel
theorem d_Tok_quotedWidth_1 : decode b_Tok_quotedWidth 1 = .ok (.iload_n 1, 1) := by decide +kernel
theorem d_Tok_quotedWidth_2 : decode b_Tok_quotedWidth 2 = .ok (.invokevirtual 73, 3) := by decide +kernel
theorem d_Tok_quotedWidth_5 : decode b_Tok_quotedWidth 5 = .ok (.bipush 92, 2) := by decide +kernel
theorem d_Tok_quotedWidth_7 : decode b_Tok_quotedWidth 7 = .ok (.if_icmp .ne 7, 3) := by decide +kernel
theorem d_Tok_quotedWidth_10 : decode b_Tok_quotedWidth 10 = .ok (.iconst 2, 1) := by decide +kernel
theorem d_Tok_quotedWidth_11 : decode b_Tok_quotedWidth 11 = .ok (.goto 4, 3) := by decide +kernel
theorem d_Tok_quotedWidth_14 : decode b_Tok_quotedWidth 14 = .ok (.iconst 1, 1) := by decide +kernel
theorem d_Tok_quotedWidth_15 : decode b_Tok_quotedWidth 15 = .ok (.ireturn, 1) := by decide +kernel
theorem q_Tok_quotedWidth : px_y y_Tok_quotedWidth 1 := by unfold px_y; decide +kernel
set_option maxHeartbeats 4000000 in
set_option maxRecDepth 100000 in
theorem c_Tok_quotedWidth (l : Launch) (D : va_G) (cs : Nat → ClassId) (h : Nat) (r : Nat → Nat) (tp : Nat) (tb : Nat → Int32) (f : Nat → Int32) (a : Nat → Nat → Int32) (g : Nat → Nat → Option Nat) (i : Int32) (hok : TokOk (f 7) (f 8) (f 10) (f 11) (f 12) (f 13) (f 17) (a 4)) : MetI l y_Tok_quotedWidth b_Tok_quotedWidth 2 (.int) D cs 1 22 0 0 [.ref h, .int i] [wd_Tok cs h r (fun _ => some tp) f a g, [(tp, .inl (cs 1, 2048, .inl tb))]] (fun _ => True) (fun v ps => (ps = [wd_Tok cs h r (fun _ => some tp) f a g, [(tp, .inl (cs 1, 2048, .inl tb))]]) ∧ (1 ≤ v.toInt) ∧ (v.toInt ≤ 2)) := by
  refine px_enter (by decide) (Nat.le_of_ble_eq_true rfl) ?_
  intro p e s m below meth c A ls hAe S hr hlk hnm hA hT hX hw hl
  have hl : lv_has ls 2 [(0, .ref h), (1, .int i)] := hl
  have li := Int32.le_toInt i
  have ui := Int32.toInt_lt i
  obtain ⟨⟨o1, o2⟩, ⟨o3, o4⟩, ⟨o5, o6⟩, ⟨o7, o8⟩, ⟨o9, o10⟩, ⟨o11, o12⟩, o13, hn4⟩ := hok
  refine lv_aload_n S.x S.b d_Tok_quotedWidth_0 rfl (lv_at hl 0 rfl) ?_
  refine lv_iload_n S.x S.b d_Tok_quotedWidth_1 rfl (lv_at hl 1 rfl) ?_
  refine px_calli (pr := []) (px_runV (As := [.int i]) (rest := []) S (c_Tok_byteAt l D cs h r tp tb f a g i (show TokOk (f 7) (f 8) (f 10) (f 11) (f 12) (f 13) (f 17) (a 4) from ⟨⟨by omega, by omega⟩, ⟨by omega, by omega⟩, ⟨by omega, by omega⟩, ⟨by omega, by omega⟩, ⟨by omega, by omega⟩, ⟨by omega, by omega⟩, by omega, hn4⟩)  _) hT (pr := []) (pcs := [wd_Tok cs h r (fun _ => some tp) f a g, [(tp, .inl (cs 1, 2048, .inl tb))]]) hw px_X.tt (px_recv hT hw 0 0 rfl rfl rfl) m3_186 m3_183 m3_185 ms_1_6 m1_2 q_Tok_byteAt ⟨Nat.le_of_ble_eq_true rfl, Nat.le_of_ble_eq_true rfl⟩ hl.1 rfl (Nat.le_of_ble_eq_true rfl) d_Tok_quotedWidth_2 ⟨Nat.le_of_ble_eq_true rfl, Nat.le_of_ble_eq_true rfl⟩) hw hA (fun v4 p3 H locs hp3 hw => ?_)
  obtain ⟨rfl, e5, e6, e7⟩ := hp3
  have e5 : -1 ≤ v4.toInt := e5
  have e6 : v4.toInt ≤ 255 := e6
  have e7 : 0 ≤ v4.toInt → 0 ≤ i.toInt ∧ i.toInt < (f 7).toInt := e7
  have hw : pw D A s.heap H locs [wd_Tok cs h r (fun _ => some tp) f a g, [(tp, .inl (cs 1, 2048, .inl tb))]] := hw
  have lv4 := Int32.le_toInt v4
  have uv4 := Int32.toInt_lt v4
  refine lv_bipush (v := 92) S.x S.b d_Tok_quotedWidth_5 (by decide) ?_
  refine lv_icmp_ne (tgt := 14) S.x S.b d_Tok_quotedWidth_7 (by decide) (fun c8 => ?_) (fun c8 => ?_)
  · have nc8 : ¬ v4.toInt = (92) := mt (i_eq (x := v4) (y := 92)).mpr c8
    refine lv_iconst (v := 1) S.x S.b d_Tok_quotedWidth_14 (by decide) ?_
    exact px_iret (v := 1) S hr rfl hlk hAe hw (Nat.le_of_ble_eq_true rfl) (Nat.le_of_ble_eq_true rfl) (⟨rfl, (show 1 ≤ (1) from by omega), (show (1) ≤ 2 from by omega)⟩) d_Tok_quotedWidth_15
  · have nc8 : v4.toInt = (92) := (i_eq (x := v4) (y := 92)).mp c8
    refine lv_iconst (v := 2) S.x S.b d_Tok_quotedWidth_10 (by decide) ?_
    refine lv_goto (tgt := 15) S.x S.b d_Tok_quotedWidth_11 (by decide) ?_
    exact px_iret (v := 2) S hr rfl hlk hAe hw (Nat.le_of_ble_eq_true rfl) (Nat.le_of_ble_eq_true rfl) (⟨rfl, (show 1 ≤ (2) from by omega), (show (2) ≤ 2 from by omega)⟩) d_Tok_quotedWidth_15
abbrev b_Tok_lineEnd : ByteArray := prog_12_method_5_code
def y_Tok_lineEnd : MethodName := ⟨"HomeSystem$Tokens", "lineEnd", "()I"⟩
theorem d_Tok_lineEnd_0 : decode b_Tok_lineEnd 0 = .ok (.aload_n 0, 1) := by decide +kernel
theorem d_Tok_lineEnd_1 : decode b_Tok_lineEnd 1 = .ok (.getfield 50, 3) := by decide +kernel
theorem d_Tok_lineEnd_4 : decode b_Tok_lineEnd 4 = .ok (.istore_n 1, 1) := by decide +kernel
theorem d_Tok_lineEnd_5 : decode b_Tok_lineEnd 5 = .ok (.iload_n 1, 1) := by decide +kernel
theorem d_Tok_lineEnd_6 : decode b_Tok_lineEnd 6 = .ok (.aload_n 0, 1) := by decide +kernel
theorem d_Tok_lineEnd_7 : decode b_Tok_lineEnd 7 = .ok (.getfield 47, 3) := by decide +kernel
theorem d_Tok_lineEnd_10 : decode b_Tok_lineEnd 10 = .ok (.if_icmp .ge 21, 3) := by decide +kernel
theorem d_Tok_lineEnd_13 : decode b_Tok_lineEnd 13 = .ok (.aload_n 0, 1) := by decide +kernel
theorem d_Tok_lineEnd_14 : decode b_Tok_lineEnd 14 = .ok (.iload_n 1, 1) := by decide +kernel
theorem d_Tok_lineEnd_15 : decode b_Tok_lineEnd 15 = .ok (.invokevirtual 73, 3) := by decide +kernel
theorem d_Tok_lineEnd_18 : decode b_Tok_lineEnd 18 = .ok (.bipush 10, 2) := by decide +kernel
theorem d_Tok_lineEnd_20 : decode b_Tok_lineEnd 20 = .ok (.if_icmp .ne 5, 3) := by decide +kernel
theorem d_Tok_lineEnd_23 : decode b_Tok_lineEnd 23 = .ok (.iload_n 1, 1) := by decide +kernel
theorem d_Tok_lineEnd_24 : decode b_Tok_lineEnd 24 = .ok (.ireturn, 1) := by decide +kernel
theorem d_Tok_lineEnd_25 : decode b_Tok_lineEnd 25 = .ok (.iinc 1 1, 3) := by decide +kernel
theorem d_Tok_lineEnd_28 : decode b_Tok_lineEnd 28 = .ok (.goto (-23), 3) := by decide +kernel
theorem d_Tok_lineEnd_31 : decode b_Tok_lineEnd 31 = .ok (.aload_n 0, 1) := by decide +kernel
theorem d_Tok_lineEnd_32 : decode b_Tok_lineEnd 32 = .ok (.getfield 47, 3) := by decide +kernel
theorem d_Tok_lineEnd_35 : decode b_Tok_lineEnd 35 = .ok (.ireturn, 1) := by decide +kernel
theorem q_Tok_lineEnd : px_y y_Tok_lineEnd 0 := by unfold px_y; decide +kernel
set_option maxHeartbeats 4000000 in
set_option maxRecDepth 100000 in
theorem c_Tok_lineEnd (l : Launch) (D : va_G) (cs : Nat → ClassId) (h : Nat) (r : Nat → Nat) (tp : Nat) (tb : Nat → Int32) (f : Nat → Int32) (a : Nat → Nat → Int32) (g : Nat → Nat → Option Nat) (hok : TokOk (f 7) (f 8) (f 10) (f 11) (f 12) (f 13) (f 17) (a 4)) : MetI l y_Tok_lineEnd b_Tok_lineEnd 2 (.int) D cs 1 21 0 0 [.ref h] [wd_Tok cs h r (fun _ => some tp) f a g, [(tp, .inl (cs 1, 2048, .inl tb))]] (fun _ => True) (fun v ps => (ps = [wd_Tok cs h r (fun _ => some tp) f a g, [(tp, .inl (cs 1, 2048, .inl tb))]]) ∧ (0 ≤ v.toInt) ∧ (v.toInt ≤ (f 7).toInt+8)) := by
  refine px_enter (by decide) (Nat.le_of_ble_eq_true rfl) ?_
  intro p e s m below meth c A ls hAe S hr hlk hnm hA hT hX hw hl
  have hl : lv_has ls 2 [(0, .ref h)] := hl
  obtain ⟨⟨o1, o2⟩, ⟨o3, o4⟩, ⟨o5, o6⟩, ⟨o7, o8⟩, ⟨o9, o10⟩, ⟨o11, o12⟩, o13, hn4⟩ := hok
  have J5 : ∀ (n : Nat) (x5_1 : Int32) (H : Heap) (locs : List Loc) (ls : Array Slot), 0 ≤ x5_1.toInt → x5_1.toInt ≤ (f 7).toInt+8 → (f 7).toInt+16-x5_1.toInt < (n : Int) → pw D A s.heap H locs [wd_Tok cs h r (fun _ => some tp) f a g, [(tp, .inl (cs 1, 2048, .inl tb))]] → lv_has ls 2 [(0, .ref h), (1, .int x5_1)] → W p l e { frames := 1, cells := 0, slots := 0, locals := 21 } s m [.ref h].toArray below meth c H locs 0 0 (MQ below (va_Qi (fun v ps => (ps = [wd_Tok cs h r (fun _ => some tp) f a g, [(tp, .inl (cs 1, 2048, .inl tb))]]) ∧ (0 ≤ v.toInt) ∧ (v.toInt ≤ (f 7).toInt+8)) (pc_B D (va_A ([wd_Tok cs h r (fun _ => some tp) f a g, [(tp, .inl (cs 1, 2048, .inl tb))]] : List va_W).flatten s.heap.size)) (va_A ([wd_Tok cs h r (fun _ => some tp) f a g, [(tp, .inl (cs 1, 2048, .inl tb))]] : List va_W).flatten s.heap.size)) [.ref h].toArray s 0 0 A) (F0 m 5 ls []) := by
    intro n
    induction n with
    | zero =>
      intro  x5_1 H locs ls k5_0 k5_1 hm hw hl
      have lx5_1 := Int32.le_toInt x5_1
      have ux5_1 := Int32.toInt_lt x5_1
      exact absurd hm (by omega)
    | succ n ih =>
      intro  x5_1 H locs ls k5_0 k5_1 hm hw hl
      have lx5_1 := Int32.le_toInt x5_1
      have ux5_1 := Int32.toInt_lt x5_1
      refine lv_iload_n S.x S.b d_Tok_lineEnd_5 rfl (lv_at hl 1 rfl) ?_
      refine lv_aload_n S.x S.b d_Tok_lineEnd_6 rfl (lv_at hl 0 rfl) ?_
      refine px_get S k_Tok hT hw 0 0 7 (v := .int (f 7)) rfl rfl rfl (by decide) m1_110 d_Tok_lineEnd_7 ?_
      refine lv_icmp_ge (tgt := 31) S.x S.b d_Tok_lineEnd_10 (by decide) (fun c1 => ?_) (fun c1 => ?_)
      · have nc1 : (f 7).toInt ≤ x5_1.toInt := (i_le (x := (f 7)) (y := x5_1)).mp c1
        refine lv_aload_n S.x S.b d_Tok_lineEnd_31 rfl (lv_at hl 0 rfl) ?_
        refine px_get S k_Tok hT hw 0 0 7 (v := .int (f 7)) rfl rfl rfl (by decide) m1_110 d_Tok_lineEnd_32 ?_
        exact px_iret (v := (f 7)) S hr rfl hlk hAe hw (Nat.le_of_ble_eq_true rfl) (Nat.le_of_ble_eq_true rfl) (⟨rfl, (show 0 ≤ (f 7).toInt from by omega), (show (f 7).toInt ≤ (f 7).toInt+8 from by omega)⟩) d_Tok_lineEnd_35
      · have nc1 : ¬ (f 7).toInt ≤ x5_1.toInt := mt (i_le (x := (f 7)) (y := x5_1)).mpr c1
        refine lv_aload_n S.x S.b d_Tok_lineEnd_13 rfl (lv_at hl 0 rfl) ?_
        refine lv_iload_n S.x S.b d_Tok_lineEnd_14 rfl (lv_at hl 1 rfl) ?_
        refine px_calli (pr := []) (px_runV (As := [.int x5_1]) (rest := []) S (c_Tok_byteAt l D cs h r tp tb f a g x5_1 (show TokOk (f 7) (f 8) (f 10) (f 11) (f 12) (f 13) (f 17) (a 4) from ⟨⟨by omega, by omega⟩, ⟨by omega, by omega⟩, ⟨by omega, by omega⟩, ⟨by omega, by omega⟩, ⟨by omega, by omega⟩, ⟨by omega, by omega⟩, by omega, hn4⟩)  _) hT (pr := []) (pcs := [wd_Tok cs h r (fun _ => some tp) f a g, [(tp, .inl (cs 1, 2048, .inl tb))]]) hw px_X.tt (px_recv hT hw 0 0 rfl rfl rfl) m3_186 m3_183 m3_185 ms_1_6 m1_2 q_Tok_byteAt ⟨Nat.le_of_ble_eq_true rfl, Nat.le_of_ble_eq_true rfl⟩ hl.1 rfl (Nat.le_of_ble_eq_true rfl) d_Tok_lineEnd_15 ⟨Nat.le_of_ble_eq_true rfl, Nat.le_of_ble_eq_true rfl⟩) hw hA (fun v5 p4 H locs hp4 hw => ?_)
        obtain ⟨rfl, e6, e7, e8⟩ := hp4
        have e6 : -1 ≤ v5.toInt := e6
        have e7 : v5.toInt ≤ 255 := e7
        have e8 : 0 ≤ v5.toInt → 0 ≤ x5_1.toInt ∧ x5_1.toInt < (f 7).toInt := e8
        have hw : pw D A s.heap H locs [wd_Tok cs h r (fun _ => some tp) f a g, [(tp, .inl (cs 1, 2048, .inl tb))]] := hw
        have lv5 := Int32.le_toInt v5
        have uv5 := Int32.toInt_lt v5
        refine lv_bipush (v := 10) S.x S.b d_Tok_lineEnd_18 (by decide) ?_
        refine lv_icmp_ne (tgt := 25) S.x S.b d_Tok_lineEnd_20 (by decide) (fun c9 => ?_) (fun c9 => ?_)
        · have nc9 : ¬ v5.toInt = (10) := mt (i_eq (x := v5) (y := 10)).mpr c9
          obtain ⟨z10, ez10⟩ : ∃ y : Int32, y = x5_1 + 1 := ⟨_, rfl⟩
          have tz10 : z10.toInt = (x5_1.toInt + 1 + 2147483648) % 4294967296 - 2147483648 := by rw [ez10]; exact i_add x5_1 1
          have lz10 := Int32.le_toInt z10
          have uz10 := Int32.toInt_lt z10
          refine lv_iinc (v := z10) (lv' := [(1, .int z10), (0, .ref h)]) S.x S.b d_Tok_lineEnd_25 hl (k := 1) rfl (by rw [ez10]; rfl) (by decide) rfl (fun ls hl => ?_)
          refine lv_goto (tgt := 5) S.x S.b d_Tok_lineEnd_28 (by decide) ?_
          exact ih  z10 _ _ ls  (show 0 ≤ z10.toInt from by omega) (show z10.toInt ≤ (f 7).toInt+8 from by omega) (by omega) hw (lv_sub hl [1, 0] rfl)
        · have nc9 : v5.toInt = (10) := (i_eq (x := v5) (y := 10)).mp c9
          refine lv_iload_n S.x S.b d_Tok_lineEnd_23 rfl (lv_at hl 1 rfl) ?_
          exact px_iret (v := x5_1) S hr rfl hlk hAe hw (Nat.le_of_ble_eq_true rfl) (Nat.le_of_ble_eq_true rfl) (⟨rfl, (show 0 ≤ x5_1.toInt from by omega), (show x5_1.toInt ≤ (f 7).toInt+8 from by omega)⟩) d_Tok_lineEnd_24
  refine lv_aload_n S.x S.b d_Tok_lineEnd_0 rfl (lv_at hl 0 rfl) ?_
  refine px_get S k_Tok hT hw 0 0 8 (v := .int (f 8)) rfl rfl rfl (by decide) m1_111 d_Tok_lineEnd_1 ?_
  refine lv_istore_n (lv' := [(1, .int (f 8)), (0, .ref h)]) S.x S.b d_Tok_lineEnd_4 rfl hl (by decide) rfl (fun ls hl => ?_)
  exact J5 (((f 7).toInt+16-(f 8).toInt).toNat + 1)  (f 8) _ _ ls  (show 0 ≤ (f 8).toInt from by omega) (show (f 8).toInt ≤ (f 7).toInt+8 from by omega) (by omega) hw (lv_sub hl [1, 0] rfl)
