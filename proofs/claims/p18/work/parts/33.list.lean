theorem oz_cfe616fd96 {a0 a1 : Int} (h0 : a0 = a1 - (1 : Int)) : a0 = a1 - 1 := by omega
theorem oz_202bf8b9d2 {a0 a1 a2 a3 : Int} (h0 : a1 = a2 - 1) (h1 : ¬ a3 ≤ a1) (h2 : a3 = a2 - (1 : Int)) : a0 = a1 + (1 : Int) := by omega
theorem oz_54599d90db {a0 a1 a2 a3 : Int} (h0 : a2 = a3 - 1) (h1 : a1 = a3 - (1 : Int)) (h2 : ¬ a1 ≤ a2) : a0 = a1 - a2 := by omega
theorem oz_77ad2ce5bd {a0 a1 : Int} (h0 : a0 = a1 - 1) : a0 < a1 := by omega
theorem m4_83 : Cond.methodLink "java/util/Objects" 105 ⟨"jdk/internal/util/Preconditions", "checkIndex", "(IILjava/util/function/BiFunction;)I"⟩ ∈ AL := AL_4 (List.mem_of_getElem? (i := 83) rfl) rfl
theorem m1_189 : Cond.fieldLink "java/util/ArrayList" 48 "java/util/ArrayList" "size" "I" ∈ AL := AL_1 (List.mem_of_getElem? (i := 189) rfl) rfl
theorem m1_188 : Cond.fieldLink "java/util/ArrayList" 9 "java/util/ArrayList" "elementData" "[Ljava/lang/Object;" ∈ AL := AL_1 (List.mem_of_getElem? (i := 188) rfl) rfl
theorem m4_80 : Cond.methodLink "java/util/ArrayList" 118 ⟨"java/util/Objects", "checkIndex", "(II)I"⟩ ∈ AL := AL_4 (List.mem_of_getElem? (i := 80) rfl) rfl
theorem m4_82 : Cond.code ⟨"java/util/Objects", "checkIndex", "(II)I"⟩ prog_43_method_17_code 2 (Option.some FieldType.int) ∈ AL := AL_4 (List.mem_of_getElem? (i := 82) rfl) rfl
theorem m1_30 : Cond.initialized "java/util/Objects" ∈ AL := AL_1 (List.mem_of_getElem? (i := 30) rfl) rfl
theorem m4_81 : Cond.static ⟨"java/util/Objects", "checkIndex", "(II)I"⟩ ∈ AL := AL_4 (List.mem_of_getElem? (i := 81) rfl) rfl
theorem m5_23 : Cond.methodLink "java/util/ArrayList" 123 ⟨"java/util/ArrayList", "elementData", "(I)Ljava/lang/Object;"⟩ ∈ AL := AL_5 (List.mem_of_getElem? (i := 23) rfl) rfl
theorem m5_26 : Cond.code ⟨"java/util/ArrayList", "elementData", "(I)Ljava/lang/Object;"⟩ prog_39_method_18_code 2 (Option.some (FieldType.object "java/lang/Object")) ∈ AL := AL_5 (List.mem_of_getElem? (i := 26) rfl) rfl
theorem m1_10 : Cond.initialized "java/util/ArrayList" ∈ AL := AL_1 (List.mem_of_getElem? (i := 10) rfl) rfl
theorem m5_25 : Cond.selects "java/util/ArrayList" ⟨"java/util/ArrayList", "elementData", "(I)Ljava/lang/Object;"⟩ ⟨"java/util/ArrayList", "elementData", "(I)Ljava/lang/Object;"⟩ ∈ AL := AL_5 (List.mem_of_getElem? (i := 25) rfl) rfl
theorem m5_24 : Cond.instanceMethod ⟨"java/util/ArrayList", "elementData", "(I)Ljava/lang/Object;"⟩ ∈ AL := AL_5 (List.mem_of_getElem? (i := 24) rfl) rfl
theorem m1_191 : Cond.fieldLink "java/util/ArrayList" 63 "java/util/ArrayList" "modCount" "I" ∈ AL := AL_1 (List.mem_of_getElem? (i := 191) rfl) rfl
theorem m1_192 : Cond.sameField "java/util/ArrayList" "java/util/AbstractList" "modCount" "I" ∈ AL := AL_1 (List.mem_of_getElem? (i := 192) rfl) rfl
theorem m4_88 : Cond.methodLink "java/util/ArrayList" 112 ⟨"java/lang/System", "arraycopy", "(Ljava/lang/Object;ILjava/lang/Object;II)V"⟩ ∈ AL := AL_4 (List.mem_of_getElem? (i := 88) rfl) rfl
theorem m4_84 : Cond.methodLink "java/util/ArrayList" 144 ⟨"java/util/ArrayList", "fastRemove", "([Ljava/lang/Object;I)V"⟩ ∈ AL := AL_4 (List.mem_of_getElem? (i := 84) rfl) rfl
theorem m4_87 : Cond.code ⟨"java/util/ArrayList", "fastRemove", "([Ljava/lang/Object;I)V"⟩ prog_39_method_39_code 4 (Option.none : Option Jvm.ClassFile.FieldType) ∈ AL := AL_4 (List.mem_of_getElem? (i := 87) rfl) rfl
theorem ms_2_4 : Cond.selects "java/util/ArrayList" ⟨"java/util/ArrayList", "fastRemove", "([Ljava/lang/Object;I)V"⟩ ⟨"java/util/ArrayList", "fastRemove", "([Ljava/lang/Object;I)V"⟩ ∈ AL := AL_p (q := (⟨"java/util/ArrayList", "fastRemove", "([Ljava/lang/Object;I)V"⟩, 3)) (by unfold lw_privs; exact List.mem_append_right _ (List.mem_append_left _ (List.mem_of_getElem? (i := 4) rfl)))
theorem m4_86 : Cond.instanceMethod ⟨"java/util/ArrayList", "fastRemove", "([Ljava/lang/Object;I)V"⟩ ∈ AL := AL_4 (List.mem_of_getElem? (i := 86) rfl) rfl
def wd_Lst (cs : Nat → ClassId) (h : Nat) (r : Nat → Nat) (o : Nat → Option Nat) (f : Nat → Int32) (a : Nat → Nat → Int32) (g : Nat → Nat → Option Nat) : va_W := [(h, .inr (14, [va_rf (o 0), .int (f 1), .int (f 2)]))]
abbrev b_Objects_checkIndex : ByteArray := prog_43_method_17_code
def y_Objects_checkIndex : MethodName := ⟨"java/util/Objects", "checkIndex", "(II)I"⟩
theorem d_Objects_checkIndex_0 : decode b_Objects_checkIndex 0 = .ok (.iload_n 0, 1) := by decide +kernel
theorem d_Objects_checkIndex_1 : decode b_Objects_checkIndex 1 = .ok (.iload_n 1, 1) := by decide +kernel
theorem d_Objects_checkIndex_2 : decode b_Objects_checkIndex 2 = .ok (.aconst_null, 1) := by decide +kernel
theorem d_Objects_checkIndex_3 : decode b_Objects_checkIndex 3 = .ok (.invokestatic 105, 3) := by decide +kernel
theorem d_Objects_checkIndex_6 : decode b_Objects_checkIndex 6 = .ok (.ireturn, 1) := by decide +kernel
theorem q_Objects_checkIndex : px_y y_Objects_checkIndex 2 := by unfold px_y; decide +kernel
set_option maxHeartbeats 4000000 in
set_option maxRecDepth 100000 in
theorem c_Objects_checkIndex (l : Launch) (D : va_G) (cs : Nat → ClassId)  (p0 p1 : Int32)  (g0 : 0 ≤ p0.toInt) (g1 : p0.toInt < p1.toInt) : MetI l y_Objects_checkIndex b_Objects_checkIndex 2 (.int) D cs 1 30 (0) (0) [.int p0, .int p1] [] (fun _ => True) (fun v ps => (ps = []) ∧ (R_Objects_checkIndex p0 p1 v)) := by
  refine px_enter (by decide) (Nat.le_of_ble_eq_true rfl) ?_
  intro p e s m below meth c A ls hAe S hr hlk hnm hA hT hX hw hl
  have hl : lv_has ls 2 [(0, .int p0), (1, .int p1)] := hl
  have lp0 := Int32.le_toInt p0
  have up0 := Int32.toInt_lt p0
  have lp1 := Int32.le_toInt p1
  have up1 := Int32.toInt_lt p1
  refine lv_iload_n S.x S.b d_Objects_checkIndex_0 rfl (lv_at hl 0 rfl) ?_
  refine lv_iload_n S.x S.b d_Objects_checkIndex_1 rfl (lv_at hl 1 rfl) ?_
  refine lv_null S.x S.b d_Objects_checkIndex_2 ?_
  refine px_calli (pr := []) (px_runS (As := [.int p0, .int p1, .null]) (rest := []) S (c_checkIndexN l D cs  p0 p1  (show 0 ≤ p0.toInt from by first | exact g0 | omega) (show p0.toInt < p1.toInt from by first | exact g1 | omega) _) hT (pr := []) (pcs := []) hw px_X.tt m1_83 m4_83 m1_82 m1_5 q_Preconditions_checkIndex ⟨Nat.le_of_ble_eq_true rfl, Nat.le_of_ble_eq_true rfl⟩ hl.1 rfl (Nat.le_of_ble_eq_true rfl) d_Objects_checkIndex_3 ⟨Nat.le_of_ble_eq_true rfl, Nat.le_of_ble_eq_true rfl⟩) hw hA (fun v2 p1 H locs hp1 hw => ?_)
  obtain ⟨rfl, e3⟩ := hp1
  have e3 : R_checkIndexN p0 p1 v2 := e3
  have hw : pw D A s.heap H locs [] := hw
  have lv2 := Int32.le_toInt v2
  have uv2 := Int32.toInt_lt v2
  exact px_iret (v := v2) S hr rfl hlk hAe hw (Nat.le_of_ble_eq_true rfl) (Nat.le_of_ble_eq_true rfl) (⟨rfl, (show R_Objects_checkIndex p0 p1 v2 from (Or.inl ⟨v2, e3, rfl⟩))⟩) d_Objects_checkIndex_6
abbrev b_Lst_size : ByteArray := prog_39_method_8_code
def y_Lst_size : MethodName := ⟨"java/util/ArrayList", "size", "()I"⟩
theorem d_Lst_size_0 : decode b_Lst_size 0 = .ok (.aload_n 0, 1) := by decide +kernel
theorem d_Lst_size_1 : decode b_Lst_size 1 = .ok (.getfield 48, 3) := by decide +kernel
theorem d_Lst_size_4 : decode b_Lst_size 4 = .ok (.ireturn, 1) := by decide +kernel
theorem q_Lst_size : px_y y_Lst_size 0 := by unfold px_y; decide +kernel
set_option maxHeartbeats 4000000 in
set_option maxRecDepth 100000 in
theorem c_Lst_size (l : Launch) (D : va_G) (cs : Nat → ClassId) (hl0 : Nat) (lq : Nat) (lc : Nat) (lf : Nat → Int32) (lg : Nat → Option Nat)   : MetI l y_Lst_size b_Lst_size 1 (.int) D cs 0 0 (0) (0) [.ref hl0] [wd_Lst cs hl0 (fun _ => 0) (fun k => if k = 0 then (some lq) else none) lf (fun _ _ => 0) (fun _ _ => none), [(lq, .inl (cs 12, lc, .inr (.inr (.inr (.inr lg)))))]] (fun _ => True) (fun v ps => (ps = [wd_Lst cs hl0 (fun _ => 0) (fun k => if k = 0 then (some lq) else none) lf (fun _ _ => 0) (fun _ _ => none), [(lq, .inl (cs 12, lc, .inr (.inr (.inr (.inr lg)))))]]) ∧ (v.toInt = (lf 1).toInt) ∧ (R_Lst_size lf v)) := by
  refine px_enter (by decide) (Nat.le_of_ble_eq_true rfl) ?_
  intro p e s m below meth c A ls hAe S hr hlk hnm hA hT hX hw hl
  have hl : lv_has ls 1 [(0, .ref hl0)] := hl
  refine lv_aload_n S.x S.b d_Lst_size_0 rfl (lv_at hl 0 rfl) ?_
  refine px_get S k_Lst hT hw 0 0 1 (v := .int (lf 1)) rfl rfl rfl (by decide) m1_189 d_Lst_size_1 ?_
  exact px_iret (v := (lf 1)) S hr rfl hlk hAe hw (Nat.le_of_ble_eq_true rfl) (Nat.le_of_ble_eq_true rfl) (⟨rfl, (show (lf 1).toInt = (lf 1).toInt from rfl), (show R_Lst_size lf (lf 1) from (Or.inl rfl))⟩) d_Lst_size_4
abbrev b_Lst_elementData : ByteArray := prog_39_method_18_code
def y_Lst_elementData : MethodName := ⟨"java/util/ArrayList", "elementData", "(I)Ljava/lang/Object;"⟩
theorem d_Lst_elementData_0 : decode b_Lst_elementData 0 = .ok (.aload_n 0, 1) := by decide +kernel
theorem d_Lst_elementData_1 : decode b_Lst_elementData 1 = .ok (.getfield 9, 3) := by decide +kernel
theorem d_Lst_elementData_4 : decode b_Lst_elementData 4 = .ok (.iload_n 1, 1) := by decide +kernel
theorem d_Lst_elementData_5 : decode b_Lst_elementData 5 = .ok (.aaload, 1) := by decide +kernel
theorem d_Lst_elementData_6 : decode b_Lst_elementData 6 = .ok (.areturn, 1) := by decide +kernel
theorem q_Lst_elementData : px_y y_Lst_elementData 1 := by unfold px_y; decide +kernel
set_option maxHeartbeats 4000000 in
set_option maxRecDepth 100000 in
theorem c_Lst_elementData (l : Launch) (D : va_G) (cs : Nat → ClassId) (hl0 : Nat) (lq : Nat) (lc : Nat) (lf : Nat → Int32) (lg : Nat → Option Nat) (p0 : Int32)  (g0 : lc ≤ 1000000) (g1 : 0 ≤ (lf 1).toInt) (g2 : (lf 1).toInt ≤ (lc : Int)) (g3 : 0 ≤ p0.toInt) (g4 : p0.toInt < (lf 1).toInt) : MetR l y_Lst_elementData b_Lst_elementData 2 (.object "java/lang/Object") D cs 0 0 (0) (0) [.ref hl0, .int p0] [wd_Lst cs hl0 (fun _ => 0) (fun k => if k = 0 then (some lq) else none) lf (fun _ _ => 0) (fun _ _ => none), [(lq, .inl (cs 12, lc, .inr (.inr (.inr (.inr lg)))))]] (fun _ => True) (fun v ps => (ps = [wd_Lst cs hl0 (fun _ => 0) (fun k => if k = 0 then (some lq) else none) lf (fun _ _ => 0) (fun _ _ => none), [(lq, .inl (cs 12, lc, .inr (.inr (.inr (.inr lg)))))]]) ∧ (v = lg p0.toNatClampNeg)) := by
  refine px_enter (by decide) (Nat.le_of_ble_eq_true rfl) ?_
  intro p e s m below meth c A ls hAe S hr hlk hnm hA hT hX hw hl
  have hl : lv_has ls 2 [(0, .ref hl0), (1, .int p0)] := hl
  have lp0 := Int32.le_toInt p0
  have up0 := Int32.toInt_lt p0
  refine lv_aload_n S.x S.b d_Lst_elementData_0 rfl (lv_at hl 0 rfl) ?_
  refine px_get S k_Lst hT hw 0 0 0 (v := .ref lq) rfl rfl rfl (by decide) m1_188 d_Lst_elementData_1 ?_
  refine lv_iload_n S.x S.b d_Lst_elementData_4 rfl (lv_at hl 1 rfl) ?_
  refine px_aald S hT hw 1 0 12 (n := lc) (f := lg) rfl rfl rfl (x := p0) (vp_in_iff.mpr (by constructor <;> omega)) d_Lst_elementData_5 ?_
  exact px_aret (v := (lg p0.toNatClampNeg)) S hr (Or.inl ⟨_, rfl⟩) hlk hAe hw (Nat.le_of_ble_eq_true rfl) (Nat.le_of_ble_eq_true rfl) (⟨rfl, (show (lg p0.toNatClampNeg) = lg p0.toNatClampNeg from rfl)⟩) d_Lst_elementData_6
abbrev b_Lst_get : ByteArray := prog_39_method_20_code
def y_Lst_get : MethodName := ⟨"java/util/ArrayList", "get", "(I)Ljava/lang/Object;"⟩
theorem d_Lst_get_0 : decode b_Lst_get 0 = .ok (.iload_n 1, 1) := by decide +kernel
theorem d_Lst_get_1 : decode b_Lst_get 1 = .ok (.aload_n 0, 1) := by decide +kernel
theorem d_Lst_get_2 : decode b_Lst_get 2 = .ok (.getfield 48, 3) := by decide +kernel
theorem d_Lst_get_5 : decode b_Lst_get 5 = .ok (.invokestatic 118, 3) := by decide +kernel
theorem d_Lst_get_8 : decode b_Lst_get 8 = .ok (.pop, 1) := by decide +kernel
theorem d_Lst_get_9 : decode b_Lst_get 9 = .ok (.aload_n 0, 1) := by decide +kernel
theorem d_Lst_get_10 : decode b_Lst_get 10 = .ok (.iload_n 1, 1) := by decide +kernel
theorem d_Lst_get_11 : decode b_Lst_get 11 = .ok (.invokevirtual 123, 3) := by decide +kernel
theorem d_Lst_get_14 : decode b_Lst_get 14 = .ok (.areturn, 1) := by decide +kernel
theorem q_Lst_get : px_y y_Lst_get 1 := by unfold px_y; decide +kernel
set_option maxHeartbeats 4000000 in
set_option maxRecDepth 100000 in
theorem c_Lst_get (l : Launch) (D : va_G) (cs : Nat → ClassId) (hl0 : Nat) (lq : Nat) (lc : Nat) (lf : Nat → Int32) (lg : Nat → Option Nat) (p0 : Int32)  (g0 : lc ≤ 1000000) (g1 : 0 ≤ (lf 1).toInt) (g2 : (lf 1).toInt ≤ (lc : Int)) (g3 : 0 ≤ p0.toInt) (g4 : p0.toInt < (lf 1).toInt) : MetR l y_Lst_get b_Lst_get 2 (.object "java/lang/Object") D cs 2 60 (0) (0) [.ref hl0, .int p0] [wd_Lst cs hl0 (fun _ => 0) (fun k => if k = 0 then (some lq) else none) lf (fun _ _ => 0) (fun _ _ => none), [(lq, .inl (cs 12, lc, .inr (.inr (.inr (.inr lg)))))]] (fun _ => True) (fun v ps => (ps = [wd_Lst cs hl0 (fun _ => 0) (fun k => if k = 0 then (some lq) else none) lf (fun _ _ => 0) (fun _ _ => none), [(lq, .inl (cs 12, lc, .inr (.inr (.inr (.inr lg)))))]]) ∧ (v = lg p0.toNatClampNeg)) := by
  refine px_enter (by decide) (Nat.le_of_ble_eq_true rfl) ?_
  intro p e s m below meth c A ls hAe S hr hlk hnm hA hT hX hw hl
  have hl : lv_has ls 2 [(0, .ref hl0), (1, .int p0)] := hl
  have lp0 := Int32.le_toInt p0
  have up0 := Int32.toInt_lt p0
  refine lv_iload_n S.x S.b d_Lst_get_0 rfl (lv_at hl 1 rfl) ?_
  refine lv_aload_n S.x S.b d_Lst_get_1 rfl (lv_at hl 0 rfl) ?_
  refine px_get S k_Lst hT hw 0 0 1 (v := .int (lf 1)) rfl rfl rfl (by decide) m1_189 d_Lst_get_2 ?_
  refine px_calli (pr := [wd_Lst cs hl0 (fun _ => 0) (fun k => if k = 0 then (some lq) else none) lf (fun _ _ => 0) (fun _ _ => none), [(lq, .inl (cs 12, lc, .inr (.inr (.inr (.inr lg)))))]]) (px_runS (As := [.int p0, .int (lf 1)]) (rest := []) S (c_Objects_checkIndex l D cs  p0 (lf 1)  (show 0 ≤ p0.toInt from by first | exact g3 | omega) (show p0.toInt < (lf 1).toInt from by first | exact g4 | omega) _) hT (pr := [wd_Lst cs hl0 (fun _ => 0) (fun k => if k = 0 then (some lq) else none) lf (fun _ _ => 0) (fun _ _ => none), [(lq, .inl (cs 12, lc, .inr (.inr (.inr (.inr lg)))))]]) (pcs := []) hw px_X.tt m4_82 m4_80 m4_81 m1_30 q_Objects_checkIndex ⟨Nat.le_of_ble_eq_true rfl, Nat.le_of_ble_eq_true rfl⟩ hl.1 rfl (Nat.le_of_ble_eq_true rfl) d_Lst_get_5 ⟨Nat.le_of_ble_eq_true rfl, Nat.le_of_ble_eq_true rfl⟩) hw hA (fun v2 p1 H locs hp1 hw => ?_)
  obtain ⟨rfl, e3⟩ := hp1
  have e3 : R_Objects_checkIndex p0 (lf 1) v2 := e3
  have hw : pw D A s.heap H locs [wd_Lst cs hl0 (fun _ => 0) (fun k => if k = 0 then (some lq) else none) lf (fun _ _ => 0) (fun _ _ => none), [(lq, .inl (cs 12, lc, .inr (.inr (.inr (.inr lg)))))]] := hw
  have lv2 := Int32.le_toInt v2
  have uv2 := Int32.toInt_lt v2
  refine lv_pop S.x S.b d_Lst_get_8 rfl ?_
  refine lv_aload_n S.x S.b d_Lst_get_9 rfl (lv_at hl 0 rfl) ?_
  refine lv_iload_n S.x S.b d_Lst_get_10 rfl (lv_at hl 1 rfl) ?_
  refine px_callq (pr := []) (px_runV (As := [.int p0]) (rest := []) S (c_Lst_elementData l D cs hl0 lq lc lf lg p0  (show lc ≤ 1000000 from by first | exact g0 | omega) (show 0 ≤ (lf 1).toInt from by first | exact g1 | omega) (show (lf 1).toInt ≤ (lc : Int) from by first | exact g2 | omega) (show 0 ≤ p0.toInt from by first | exact g3 | omega) (show p0.toInt < (lf 1).toInt from by first | exact g4 | omega) _) hT (pr := []) (pcs := [wd_Lst cs hl0 (fun _ => 0) (fun k => if k = 0 then (some lq) else none) lf (fun _ _ => 0) (fun _ _ => none), [(lq, .inl (cs 12, lc, .inr (.inr (.inr (.inr lg)))))]]) hw px_X.tt (px_recv hT hw 0 0 rfl rfl rfl) m5_26 m5_23 m5_24 m5_25 m1_10 q_Lst_elementData ⟨Nat.le_of_ble_eq_true rfl, Nat.le_of_ble_eq_true rfl⟩ hl.1 rfl (Nat.le_of_ble_eq_true rfl) d_Lst_get_11 ⟨Nat.le_of_ble_eq_true rfl, Nat.le_of_ble_eq_true rfl⟩) hw hA (fun v5 p4 H locs hp4 hw => ?_)
  obtain ⟨rfl, e6⟩ := hp4
  subst e6
  have hw : pw D A s.heap H locs [wd_Lst cs hl0 (fun _ => 0) (fun k => if k = 0 then (some lq) else none) lf (fun _ _ => 0) (fun _ _ => none), [(lq, .inl (cs 12, lc, .inr (.inr (.inr (.inr lg)))))]] := hw
  exact px_aret (v := (lg p0.toNatClampNeg)) S hr (Or.inl ⟨_, rfl⟩) hlk hAe hw (Nat.le_of_ble_eq_true rfl) (Nat.le_of_ble_eq_true rfl) (⟨rfl, (show (lg p0.toNatClampNeg) = lg p0.toNatClampNeg from rfl)⟩) d_Lst_get_14
abbrev b_Lst_clear : ByteArray := prog_39_method_40_code
def y_Lst_clear : MethodName := ⟨"java/util/ArrayList", "clear", "()V"⟩
theorem d_Lst_clear_0 : decode b_Lst_clear 0 = .ok (.aload_n 0, 1) := by decide +kernel
theorem d_Lst_clear_1 : decode b_Lst_clear 1 = .ok (.dup, 1) := by decide +kernel
theorem d_Lst_clear_2 : decode b_Lst_clear 2 = .ok (.getfield 63, 3) := by decide +kernel
theorem d_Lst_clear_5 : decode b_Lst_clear 5 = .ok (.iconst 1, 1) := by decide +kernel
theorem d_Lst_clear_6 : decode b_Lst_clear 6 = .ok (.iadd, 1) := by decide +kernel
theorem d_Lst_clear_7 : decode b_Lst_clear 7 = .ok (.putfield 63, 3) := by decide +kernel
theorem d_Lst_clear_10 : decode b_Lst_clear 10 = .ok (.aload_n 0, 1) := by decide +kernel
theorem d_Lst_clear_11 : decode b_Lst_clear 11 = .ok (.getfield 9, 3) := by decide +kernel
theorem d_Lst_clear_14 : decode b_Lst_clear 14 = .ok (.astore_n 1, 1) := by decide +kernel
theorem d_Lst_clear_15 : decode b_Lst_clear 15 = .ok (.aload_n 0, 1) := by decide +kernel
theorem d_Lst_clear_16 : decode b_Lst_clear 16 = .ok (.getfield 48, 3) := by decide +kernel
theorem d_Lst_clear_19 : decode b_Lst_clear 19 = .ok (.istore_n 2, 1) := by decide +kernel
theorem d_Lst_clear_20 : decode b_Lst_clear 20 = .ok (.aload_n 0, 1) := by decide +kernel
theorem d_Lst_clear_21 : decode b_Lst_clear 21 = .ok (.iconst 0, 1) := by decide +kernel
theorem d_Lst_clear_22 : decode b_Lst_clear 22 = .ok (.dup_x1, 1) := by decide +kernel
theorem d_Lst_clear_23 : decode b_Lst_clear 23 = .ok (.putfield 48, 3) := by decide +kernel
theorem d_Lst_clear_26 : decode b_Lst_clear 26 = .ok (.istore_n 3, 1) := by decide +kernel
theorem d_Lst_clear_27 : decode b_Lst_clear 27 = .ok (.iload_n 3, 1) := by decide +kernel
theorem d_Lst_clear_28 : decode b_Lst_clear 28 = .ok (.iload_n 2, 1) := by decide +kernel
theorem d_Lst_clear_29 : decode b_Lst_clear 29 = .ok (.if_icmp .ge 13, 3) := by decide +kernel
theorem d_Lst_clear_32 : decode b_Lst_clear 32 = .ok (.aload_n 1, 1) := by decide +kernel
theorem d_Lst_clear_33 : decode b_Lst_clear 33 = .ok (.iload_n 3, 1) := by decide +kernel
theorem d_Lst_clear_34 : decode b_Lst_clear 34 = .ok (.aconst_null, 1) := by decide +kernel
theorem d_Lst_clear_35 : decode b_Lst_clear 35 = .ok (.aastore, 1) := by decide +kernel
theorem d_Lst_clear_36 : decode b_Lst_clear 36 = .ok (.iinc 3 1, 3) := by decide +kernel
theorem d_Lst_clear_39 : decode b_Lst_clear 39 = .ok (.goto (-12), 3) := by decide +kernel
theorem d_Lst_clear_42 : decode b_Lst_clear 42 = .ok (.return_, 1) := by decide +kernel
theorem q_Lst_clear : px_y y_Lst_clear 0 := by unfold px_y; decide +kernel
set_option maxHeartbeats 4000000 in
set_option maxRecDepth 100000 in
theorem c_Lst_clear (l : Launch) (D : va_G) (cs : Nat → ClassId) (hl0 : Nat) (lq : Nat) (lc : Nat) (lf : Nat → Int32) (lg : Nat → Option Nat)  (g0 : lc ≤ 1000000) (g1 : 0 ≤ (lf 1).toInt) (g2 : (lf 1).toInt ≤ (lc : Int)) : MetV l y_Lst_clear b_Lst_clear 4 D cs 0 0 (0) (0) [.ref hl0] [wd_Lst cs hl0 (fun _ => 0) (fun k => if k = 0 then (some lq) else none) lf (fun _ _ => 0) (fun _ _ => none), [(lq, .inl (cs 12, lc, .inr (.inr (.inr (.inr lg)))))]] (fun _ => True) (fun ps => ∃ (lf' : Nat → Int32) (lg' : Nat → Option Nat), (ps = [wd_Lst cs hl0 (fun _ => 0) (fun k => if k = 0 then (some lq) else none) lf' (fun _ _ => 0) (fun _ _ => none), [(lq, .inl (cs 12, lc, .inr (.inr (.inr (.inr lg')))))]]) ∧ ((lf' 1).toInt = 0) ∧ (R_Lst_clear lf lg lf' lg')) := by
  refine px_enter (by decide) (Nat.le_of_ble_eq_true rfl) ?_
  intro p e s m below meth c A ls hAe S hr hlk hnm hA hT hX hw hl
  have hl : lv_has ls 4 [(0, .ref hl0)] := hl
  have cst0 : (0 : Int32).toInt = 0 := rfl
  have cst1 : (1 : Int32).toInt = 1 := rfl
  have J27 : ∀ (n_27 : Nat) (lf_27 : Nat → Int32) (lg_27 : Nat → Option Nat) (x27_2 x27_3 : Int32) (H : Heap) (locs : List Loc) (ls : Array Slot), ((lf_27 1).toInt = 0) → (0 ≤ x27_3.toInt) → (x27_2.toInt ≤ (lc : Int)) → (K_Lst_clear_27 lf lg lf_27 lg_27 x27_2 x27_3) → x27_2.toInt-x27_3.toInt+4294967297 < (n_27 : Int) → pw D A s.heap H locs [wd_Lst cs hl0 (fun _ => 0) (fun k => if k = 0 then (some lq) else none) lf_27 (fun _ _ => 0) (fun _ _ => none), [(lq, .inl (cs 12, lc, .inr (.inr (.inr (.inr lg_27)))))]] → lv_has ls 4 [(0, .ref hl0), (1, .ref lq), (2, .int x27_2), (3, .int x27_3)] → W p l e { frames := 0, cells := 0, slots := 0, locals := 0 } s m [.ref hl0].toArray below meth c H locs 0 0 (MQ below (va_Qv (fun ps => ∃ (lf' : Nat → Int32) (lg' : Nat → Option Nat), (ps = [wd_Lst cs hl0 (fun _ => 0) (fun k => if k = 0 then (some lq) else none) lf' (fun _ _ => 0) (fun _ _ => none), [(lq, .inl (cs 12, lc, .inr (.inr (.inr (.inr lg')))))]]) ∧ ((lf' 1).toInt = 0) ∧ (R_Lst_clear lf lg lf' lg')) (pc_B D (va_A ([wd_Lst cs hl0 (fun _ => 0) (fun k => if k = 0 then (some lq) else none) lf (fun _ _ => 0) (fun _ _ => none), [(lq, .inl (cs 12, lc, .inr (.inr (.inr (.inr lg)))))]] : List va_W).flatten s.heap.size)) (va_A ([wd_Lst cs hl0 (fun _ => 0) (fun k => if k = 0 then (some lq) else none) lf (fun _ _ => 0) (fun _ _ => none), [(lq, .inl (cs 12, lc, .inr (.inr (.inr (.inr lg)))))]] : List va_W).flatten s.heap.size)) [.ref hl0].toArray s 0 0 A) (F0 m 27 ls []) := by
    intro n_27
    induction n_27 with
    | zero =>
      intro lf_27 lg_27 x27_2 x27_3 H locs ls k27_0 k27_1 k27_2 k27_3 hm hw hl
      have lx27_2 := Int32.le_toInt x27_2
      have ux27_2 := Int32.toInt_lt x27_2
      have lx27_3 := Int32.le_toInt x27_3
      have ux27_3 := Int32.toInt_lt x27_3
      exact absurd hm (by omega)
    | succ n_27 ih27 =>
      intro lf_27 lg_27 x27_2 x27_3 H locs ls k27_0 k27_1 k27_2 k27_3 hm hw hl
      have lx27_2 := Int32.le_toInt x27_2
      have ux27_2 := Int32.toInt_lt x27_2
      have lx27_3 := Int32.le_toInt x27_3
      have ux27_3 := Int32.toInt_lt x27_3
      refine lv_iload_n S.x S.b d_Lst_clear_27 rfl (lv_at hl 3 rfl) ?_
      refine lv_iload_n S.x S.b d_Lst_clear_28 rfl (lv_at hl 2 rfl) ?_
      refine lv_icmp_ge (tgt := 42) S.x S.b d_Lst_clear_29 (by decide) (fun c1 => ?_) (fun c1 => ?_)
      · have nc1 : x27_2.toInt ≤ x27_3.toInt := (i_le (x := x27_2) (y := x27_3)).mp c1
        exact px_vret S hr hlk hAe hw (Nat.le_of_ble_eq_true rfl) (Nat.le_of_ble_eq_true rfl) (⟨lf_27, lg_27, rfl, (show (lf_27 1).toInt = 0 from by first | exact k27_0 | omega), (show R_Lst_clear lf lg lf_27 lg_27 from (k27_3 _ _ 1 (Or.inr (Or.inl ⟨rfl, x27_2, x27_3, rfl, rfl, rfl, rfl, rfl, Or.inl ⟨nc1, rfl, rfl⟩⟩))))⟩) d_Lst_clear_42
      · have nc1 : ¬ x27_2.toInt ≤ x27_3.toInt := mt (i_le (x := x27_2) (y := x27_3)).mpr c1
        refine lv_aload_n S.x S.b d_Lst_clear_32 rfl (lv_at hl 1 rfl) ?_
        refine lv_iload_n S.x S.b d_Lst_clear_33 rfl (lv_at hl 3 rfl) ?_
        refine lv_null S.x S.b d_Lst_clear_34 ?_
        refine px_aastN S hT hw 1 0 12 (n := lc) (f := lg_27) rfl rfl rfl (x := x27_3) (vp_in_iff.mpr (by constructor <;> omega)) d_Lst_clear_35 (w' := [(lq, .inl (cs 12, lc, .inr (.inr (.inr (.inr (va_up lg_27 x27_3.toNatClampNeg none))))))]) (ps' := [wd_Lst cs hl0 (fun _ => 0) (fun k => if k = 0 then (some lq) else none) lf_27 (fun _ _ => 0) (fun _ _ => none), [(lq, .inl (cs 12, lc, .inr (.inr (.inr (.inr (va_up lg_27 x27_3.toNatClampNeg none))))))]]) rfl rfl (fun H locs hw => ?_)
        obtain ⟨z3, ez3⟩ : ∃ y : Int32, y = x27_3 + 1 := ⟨_, rfl⟩
        have tz3 : z3.toInt = (x27_3.toInt + 1 + 2147483648) % 4294967296 - 2147483648 := by rw [ez3]; exact i_add x27_3 1
        have lz3 := Int32.le_toInt z3
        have uz3 := Int32.toInt_lt z3
        try replace tz3 : z3.toInt = x27_3.toInt + 1 := by omega
        refine lv_iinc (v := z3) (lv' := [(3, .int z3), (0, .ref hl0), (1, .ref lq), (2, .int x27_2)]) S.x S.b d_Lst_clear_36 hl (k := 3) rfl (by rw [ez3]; rfl) (by decide) rfl (fun ls hl => ?_)
        refine lv_goto (tgt := 27) S.x S.b d_Lst_clear_39 (by decide) ?_
        exact ih27 lf_27 (va_up lg_27 x27_3.toNatClampNeg none) x27_2 z3 _ _ ls (show (lf_27 1).toInt = 0 from by first | exact k27_0 | omega) (show 0 ≤ z3.toInt from by first | exact oz_ae613611c0 tz3 k27_1 | omega) (show x27_2.toInt ≤ (lc : Int) from by first | exact k27_2 | omega) (show K_Lst_clear_27 lf lg lf_27 (va_up lg_27 x27_3.toNatClampNeg none) x27_2 z3 from (fun y_f0 y_f1 k hE => k27_3 y_f0 y_f1 (k + 1) (Or.inr (Or.inl ⟨rfl, x27_2, x27_3, rfl, rfl, rfl, rfl, rfl, Or.inr ⟨nc1, z3, ez3, hE⟩⟩)))) (show x27_2.toInt-z3.toInt+4294967297 < (n_27 : Int) from by omega) hw (lv_sub hl [1, 2, 3, 0] rfl)
  refine lv_aload_n S.x S.b d_Lst_clear_0 rfl (lv_at hl 0 rfl) ?_
  refine lv_dup S.x S.b d_Lst_clear_1 rfl ?_
  refine px_getS S k_Lst hT hw 0 0 2 (v := .int (lf 2)) rfl rfl rfl (by decide) m1_191 m1_192 d_Lst_clear_2 ?_
  refine lv_iconst (v := 1) S.x S.b d_Lst_clear_5 (by decide) ?_
  refine lv_iadd S.x S.b d_Lst_clear_6 ?_
  have lr4 := Int32.le_toInt (lf 2)
  have ur4 := Int32.toInt_lt (lf 2)
  refine lv_topi (fun z5 ez5 => ?_)
  have tz5 : z5.toInt = ((lf 2).toInt + (1 : Int) + 2147483648) % 4294967296 - 2147483648 := by rw [ez5]; exact i_add (lf 2) 1
  have lz5 := Int32.le_toInt z5
  have uz5 := Int32.toInt_lt z5
  try replace tz5 : z5.toInt = (lf 2).toInt + (1 : Int) := by omega
  refine px_putS S k_Lst hT hw 0 0 2 rfl rfl (by decide) m1_191 m1_192 rfl rfl rfl (Nat.le_of_ble_eq_true rfl) d_Lst_clear_7 (w' := wd_Lst cs hl0 (fun _ => 0) (fun k => if k = 0 then (some lq) else none) (upd lf 2 z5) (fun _ _ => 0) (fun _ _ => none)) (ps' := [wd_Lst cs hl0 (fun _ => 0) (fun k => if k = 0 then (some lq) else none) (upd lf 2 z5) (fun _ _ => 0) (fun _ _ => none), [(lq, .inl (cs 12, lc, .inr (.inr (.inr (.inr lg)))))]]) rfl rfl (fun H locs hw => ?_)
  refine lv_aload_n S.x S.b d_Lst_clear_10 rfl (lv_at hl 0 rfl) ?_
  refine px_get S k_Lst hT hw 0 0 0 (v := .ref lq) rfl rfl rfl (by decide) m1_188 d_Lst_clear_11 ?_
  refine lv_astore_n (lv' := [(1, .ref lq), (0, .ref hl0)]) S.x S.b d_Lst_clear_14 rfl hl (by decide) rfl (fun ls hl => ?_)
  refine lv_aload_n S.x S.b d_Lst_clear_15 rfl (lv_at hl 1 rfl) ?_
  refine px_get S k_Lst hT hw 0 0 1 (v := .int (lf 1)) rfl rfl rfl (by decide) m1_189 d_Lst_clear_16 ?_
  refine lv_istore_n (lv' := [(2, .int (lf 1)), (1, .ref lq), (0, .ref hl0)]) S.x S.b d_Lst_clear_19 rfl hl (by decide) rfl (fun ls hl => ?_)
  refine lv_aload_n S.x S.b d_Lst_clear_20 rfl (lv_at hl 2 rfl) ?_
  refine lv_iconst (v := 0) S.x S.b d_Lst_clear_21 (by decide) ?_
  refine lv_dup_x1 S.x S.b d_Lst_clear_22 rfl rfl ?_
  refine px_put S k_Lst hT hw 0 0 1 rfl rfl (by decide) m1_189 rfl rfl rfl (Nat.le_of_ble_eq_true rfl) d_Lst_clear_23 (w' := wd_Lst cs hl0 (fun _ => 0) (fun k => if k = 0 then (some lq) else none) (upd (upd lf 1 0) 2 z5) (fun _ _ => 0) (fun _ _ => none)) (ps' := [wd_Lst cs hl0 (fun _ => 0) (fun k => if k = 0 then (some lq) else none) (upd (upd lf 1 0) 2 z5) (fun _ _ => 0) (fun _ _ => none), [(lq, .inl (cs 12, lc, .inr (.inr (.inr (.inr lg)))))]]) rfl rfl (fun H locs hw => ?_)
  refine lv_istore_n (lv' := [(3, .int 0), (2, .int (lf 1)), (1, .ref lq), (0, .ref hl0)]) S.x S.b d_Lst_clear_26 rfl hl (by decide) rfl (fun ls hl => ?_)
  exact J27 (((lf 1).toInt-(0 : Int)+4294967297).toNat + 1) (upd (upd lf 1 0) 2 z5) lg (lf 1) (0 : Int32) _ _ ls (show (0 : Int) = 0 from by first | exact oz_7d1a308c7e | omega) (show 0 ≤ (0 : Int) from by first | exact oz_5a341f00aa | omega) (show (lf 1).toInt ≤ (lc : Int) from by first | exact g2 | omega) (show K_Lst_clear_27 lf lg (upd (upd lf 1 0) 2 z5) lg (lf 1) 0 from (fun y_f0 y_f1 k hE => Exists.intro (k + 1) (Or.inl ⟨rfl, z5, ez5, hE⟩))) (show (lf 1).toInt-(0 : Int)+4294967297 < (((((lf 1).toInt-(0 : Int)+4294967297).toNat + 1 : Nat) : Int) : Int) from by first | exact oz_natlt | omega) hw (lv_sub hl [3, 2, 1, 0] rfl)
abbrev b_Lst_fastRemove : ByteArray := prog_39_method_39_code
def y_Lst_fastRemove : MethodName := ⟨"java/util/ArrayList", "fastRemove", "([Ljava/lang/Object;I)V"⟩
theorem d_Lst_fastRemove_0 : decode b_Lst_fastRemove 0 = .ok (.aload_n 0, 1) := by decide +kernel
theorem d_Lst_fastRemove_1 : decode b_Lst_fastRemove 1 = .ok (.dup, 1) := by decide +kernel
theorem d_Lst_fastRemove_2 : decode b_Lst_fastRemove 2 = .ok (.getfield 63, 3) := by decide +kernel
theorem d_Lst_fastRemove_5 : decode b_Lst_fastRemove 5 = .ok (.iconst 1, 1) := by decide +kernel
theorem d_Lst_fastRemove_6 : decode b_Lst_fastRemove 6 = .ok (.iadd, 1) := by decide +kernel
theorem d_Lst_fastRemove_7 : decode b_Lst_fastRemove 7 = .ok (.putfield 63, 3) := by decide +kernel
theorem d_Lst_fastRemove_10 : decode b_Lst_fastRemove 10 = .ok (.aload_n 0, 1) := by decide +kernel
theorem d_Lst_fastRemove_11 : decode b_Lst_fastRemove 11 = .ok (.getfield 48, 3) := by decide +kernel
theorem d_Lst_fastRemove_14 : decode b_Lst_fastRemove 14 = .ok (.iconst 1, 1) := by decide +kernel
theorem d_Lst_fastRemove_15 : decode b_Lst_fastRemove 15 = .ok (.isub, 1) := by decide +kernel
theorem d_Lst_fastRemove_16 : decode b_Lst_fastRemove 16 = .ok (.dup, 1) := by decide +kernel
theorem d_Lst_fastRemove_17 : decode b_Lst_fastRemove 17 = .ok (.istore_n 3, 1) := by decide +kernel
theorem d_Lst_fastRemove_18 : decode b_Lst_fastRemove 18 = .ok (.iload_n 2, 1) := by decide +kernel
theorem d_Lst_fastRemove_19 : decode b_Lst_fastRemove 19 = .ok (.if_icmp .le 15, 3) := by decide +kernel
theorem d_Lst_fastRemove_22 : decode b_Lst_fastRemove 22 = .ok (.aload_n 1, 1) := by decide +kernel
theorem d_Lst_fastRemove_23 : decode b_Lst_fastRemove 23 = .ok (.iload_n 2, 1) := by decide +kernel
theorem d_Lst_fastRemove_24 : decode b_Lst_fastRemove 24 = .ok (.iconst 1, 1) := by decide +kernel
theorem d_Lst_fastRemove_25 : decode b_Lst_fastRemove 25 = .ok (.iadd, 1) := by decide +kernel
theorem d_Lst_fastRemove_26 : decode b_Lst_fastRemove 26 = .ok (.aload_n 1, 1) := by decide +kernel
theorem d_Lst_fastRemove_27 : decode b_Lst_fastRemove 27 = .ok (.iload_n 2, 1) := by decide +kernel
theorem d_Lst_fastRemove_28 : decode b_Lst_fastRemove 28 = .ok (.iload_n 3, 1) := by decide +kernel
theorem d_Lst_fastRemove_29 : decode b_Lst_fastRemove 29 = .ok (.iload_n 2, 1) := by decide +kernel
theorem d_Lst_fastRemove_30 : decode b_Lst_fastRemove 30 = .ok (.isub, 1) := by decide +kernel
theorem d_Lst_fastRemove_31 : decode b_Lst_fastRemove 31 = .ok (.invokestatic 112, 3) := by decide +kernel
theorem d_Lst_fastRemove_34 : decode b_Lst_fastRemove 34 = .ok (.aload_n 1, 1) := by decide +kernel
theorem d_Lst_fastRemove_35 : decode b_Lst_fastRemove 35 = .ok (.aload_n 0, 1) := by decide +kernel
theorem d_Lst_fastRemove_36 : decode b_Lst_fastRemove 36 = .ok (.iload_n 3, 1) := by decide +kernel
theorem d_Lst_fastRemove_37 : decode b_Lst_fastRemove 37 = .ok (.dup_x1, 1) := by decide +kernel
theorem d_Lst_fastRemove_38 : decode b_Lst_fastRemove 38 = .ok (.putfield 48, 3) := by decide +kernel
theorem d_Lst_fastRemove_41 : decode b_Lst_fastRemove 41 = .ok (.aconst_null, 1) := by decide +kernel
theorem d_Lst_fastRemove_42 : decode b_Lst_fastRemove 42 = .ok (.aastore, 1) := by decide +kernel
theorem d_Lst_fastRemove_43 : decode b_Lst_fastRemove 43 = .ok (.return_, 1) := by decide +kernel
theorem q_Lst_fastRemove : px_y y_Lst_fastRemove 2 := by unfold px_y; decide +kernel
set_option maxHeartbeats 4000000 in
set_option maxRecDepth 100000 in
theorem c_Lst_fastRemove (l : Launch) (D : va_G) (cs : Nat → ClassId) (hl0 : Nat) (lq : Nat) (lc : Nat) (lf : Nat → Int32) (lg : Nat → Option Nat) (p0 : Int32)  (g0 : lc ≤ 1000000) (g1 : 0 ≤ (lf 1).toInt) (g2 : (lf 1).toInt ≤ (lc : Int)) (g3 : 0 ≤ p0.toInt) (g4 : p0.toInt = (lf 1).toInt - 1) : MetV l y_Lst_fastRemove b_Lst_fastRemove 4 D cs 0 0 (0) (0) [.ref hl0, .ref lq, .int p0] [wd_Lst cs hl0 (fun _ => 0) (fun k => if k = 0 then (some lq) else none) lf (fun _ _ => 0) (fun _ _ => none), [(lq, .inl (cs 12, lc, .inr (.inr (.inr (.inr lg)))))]] (fun _ => True) (fun ps => ∃ (lf' : Nat → Int32) (lg' : Nat → Option Nat), (ps = [wd_Lst cs hl0 (fun _ => 0) (fun k => if k = 0 then (some lq) else none) lf' (fun _ _ => 0) (fun _ _ => none), [(lq, .inl (cs 12, lc, .inr (.inr (.inr (.inr lg')))))]]) ∧ ((lf' 1).toInt = (lf 1).toInt - 1) ∧ (R_Lst_fastRemove p0 lf lg lf' lg')) := by
  refine px_enter (by decide) (Nat.le_of_ble_eq_true rfl) ?_
  intro p e s m below meth c A ls hAe S hr hlk hnm hA hT hX hw hl
  have hl : lv_has ls 4 [(0, .ref hl0), (1, .ref lq), (2, .int p0)] := hl
  have lp0 := Int32.le_toInt p0
  have up0 := Int32.toInt_lt p0
  have cst1 : (1 : Int32).toInt = 1 := rfl
  refine lv_aload_n S.x S.b d_Lst_fastRemove_0 rfl (lv_at hl 0 rfl) ?_
  refine lv_dup S.x S.b d_Lst_fastRemove_1 rfl ?_
  refine px_getS S k_Lst hT hw 0 0 2 (v := .int (lf 2)) rfl rfl rfl (by decide) m1_191 m1_192 d_Lst_fastRemove_2 ?_
  refine lv_iconst (v := 1) S.x S.b d_Lst_fastRemove_5 (by decide) ?_
  refine lv_iadd S.x S.b d_Lst_fastRemove_6 ?_
  have lr1 := Int32.le_toInt (lf 2)
  have ur1 := Int32.toInt_lt (lf 2)
  refine lv_topi (fun z2 ez2 => ?_)
  have tz2 : z2.toInt = ((lf 2).toInt + (1 : Int) + 2147483648) % 4294967296 - 2147483648 := by rw [ez2]; exact i_add (lf 2) 1
  have lz2 := Int32.le_toInt z2
  have uz2 := Int32.toInt_lt z2
  try replace tz2 : z2.toInt = (lf 2).toInt + (1 : Int) := by omega
  refine px_putS S k_Lst hT hw 0 0 2 rfl rfl (by decide) m1_191 m1_192 rfl rfl rfl (Nat.le_of_ble_eq_true rfl) d_Lst_fastRemove_7 (w' := wd_Lst cs hl0 (fun _ => 0) (fun k => if k = 0 then (some lq) else none) (upd lf 2 z2) (fun _ _ => 0) (fun _ _ => none)) (ps' := [wd_Lst cs hl0 (fun _ => 0) (fun k => if k = 0 then (some lq) else none) (upd lf 2 z2) (fun _ _ => 0) (fun _ _ => none), [(lq, .inl (cs 12, lc, .inr (.inr (.inr (.inr lg)))))]]) rfl rfl (fun H locs hw => ?_)
  refine lv_aload_n S.x S.b d_Lst_fastRemove_10 rfl (lv_at hl 0 rfl) ?_
  refine px_get S k_Lst hT hw 0 0 1 (v := .int (lf 1)) rfl rfl rfl (by decide) m1_189 d_Lst_fastRemove_11 ?_
  refine lv_iconst (v := 1) S.x S.b d_Lst_fastRemove_14 (by decide) ?_
  refine lv_isub S.x S.b d_Lst_fastRemove_15 ?_
  have lr3 := Int32.le_toInt (lf 1)
  have ur3 := Int32.toInt_lt (lf 1)
  refine lv_topi (fun z4 ez4 => ?_)
  have tz4 : z4.toInt = ((lf 1).toInt - (1 : Int) + 2147483648) % 4294967296 - 2147483648 := by rw [ez4]; exact i_sub (lf 1) 1
  have lz4 := Int32.le_toInt z4
  have uz4 := Int32.toInt_lt z4
  try replace tz4 : z4.toInt = (lf 1).toInt - (1 : Int) := by omega
  refine lv_dup S.x S.b d_Lst_fastRemove_16 rfl ?_
  refine lv_istore_n (lv' := [(3, .int z4), (0, .ref hl0), (1, .ref lq), (2, .int p0)]) S.x S.b d_Lst_fastRemove_17 rfl hl (by decide) rfl (fun ls hl => ?_)
  refine lv_iload_n S.x S.b d_Lst_fastRemove_18 rfl (lv_at hl 3 rfl) ?_
  refine lv_icmp_le (tgt := 34) S.x S.b d_Lst_fastRemove_19 (by decide) (fun c5 => ?_) (fun c5 => ?_)
  · have nc5 : z4.toInt ≤ p0.toInt := (i_le (x := z4) (y := p0)).mp c5
    refine lv_aload_n S.x S.b d_Lst_fastRemove_34 rfl (lv_at hl 2 rfl) ?_
    refine lv_aload_n S.x S.b d_Lst_fastRemove_35 rfl (lv_at hl 1 rfl) ?_
    refine lv_iload_n S.x S.b d_Lst_fastRemove_36 rfl (lv_at hl 0 rfl) ?_
    refine lv_dup_x1 S.x S.b d_Lst_fastRemove_37 rfl rfl ?_
    refine px_put S k_Lst hT hw 0 0 1 rfl rfl (by decide) m1_189 rfl rfl rfl (Nat.le_of_ble_eq_true rfl) d_Lst_fastRemove_38 (w' := wd_Lst cs hl0 (fun _ => 0) (fun k => if k = 0 then (some lq) else none) (upd (upd lf 1 z4) 2 z2) (fun _ _ => 0) (fun _ _ => none)) (ps' := [wd_Lst cs hl0 (fun _ => 0) (fun k => if k = 0 then (some lq) else none) (upd (upd lf 1 z4) 2 z2) (fun _ _ => 0) (fun _ _ => none), [(lq, .inl (cs 12, lc, .inr (.inr (.inr (.inr lg)))))]]) rfl rfl (fun H locs hw => ?_)
    refine lv_null S.x S.b d_Lst_fastRemove_41 ?_
    refine px_aastN S hT hw 1 0 12 (n := lc) (f := lg) rfl rfl rfl (x := z4) (vp_in_iff.mpr (by constructor <;> omega)) d_Lst_fastRemove_42 (w' := [(lq, .inl (cs 12, lc, .inr (.inr (.inr (.inr (va_up lg z4.toNatClampNeg none))))))]) (ps' := [wd_Lst cs hl0 (fun _ => 0) (fun k => if k = 0 then (some lq) else none) (upd (upd lf 1 z4) 2 z2) (fun _ _ => 0) (fun _ _ => none), [(lq, .inl (cs 12, lc, .inr (.inr (.inr (.inr (va_up lg z4.toNatClampNeg none))))))]]) rfl rfl (fun H locs hw => ?_)
    exact px_vret S hr hlk hAe hw (Nat.le_of_ble_eq_true rfl) (Nat.le_of_ble_eq_true rfl) (⟨(upd (upd lf 1 z4) 2 z2), (va_up lg z4.toNatClampNeg none), rfl, (show z4.toInt = (lf 1).toInt - 1 from by first | exact oz_cfe616fd96 tz4 | omega), (show R_Lst_fastRemove p0 lf lg (upd (upd lf 1 z4) 2 z2) (va_up lg z4.toNatClampNeg none) from (Or.inl ⟨z2, ez2, z4, ez4, nc5, rfl, rfl⟩))⟩) d_Lst_fastRemove_43
  · have nc5 : ¬ z4.toInt ≤ p0.toInt := mt (i_le (x := z4) (y := p0)).mpr c5
    refine lv_aload_n S.x S.b d_Lst_fastRemove_22 rfl (lv_at hl 2 rfl) ?_
    refine lv_iload_n S.x S.b d_Lst_fastRemove_23 rfl (lv_at hl 3 rfl) ?_
    refine lv_iconst (v := 1) S.x S.b d_Lst_fastRemove_24 (by decide) ?_
    refine lv_iadd S.x S.b d_Lst_fastRemove_25 ?_
    refine lv_topi (fun z7 ez7 => ?_)
    have tz7 : z7.toInt = (p0.toInt + (1 : Int) + 2147483648) % 4294967296 - 2147483648 := by rw [ez7]; exact i_add p0 1
    have lz7 := Int32.le_toInt z7
    have uz7 := Int32.toInt_lt z7
    try replace tz7 : z7.toInt = p0.toInt + (1 : Int) := by first | exact oz_202bf8b9d2 g4 nc5 tz4 | omega
    refine lv_aload_n S.x S.b d_Lst_fastRemove_26 rfl (lv_at hl 2 rfl) ?_
    refine lv_iload_n S.x S.b d_Lst_fastRemove_27 rfl (lv_at hl 3 rfl) ?_
    refine lv_iload_n S.x S.b d_Lst_fastRemove_28 rfl (lv_at hl 0 rfl) ?_
    refine lv_iload_n S.x S.b d_Lst_fastRemove_29 rfl (lv_at hl 3 rfl) ?_
    refine lv_isub S.x S.b d_Lst_fastRemove_30 ?_
    refine lv_topi (fun z8 ez8 => ?_)
    have tz8 : z8.toInt = (z4.toInt - p0.toInt + 2147483648) % 4294967296 - 2147483648 := by rw [ez8]; exact i_sub z4 p0
    have lz8 := Int32.le_toInt z8
    have uz8 := Int32.toInt_lt z8
    try replace tz8 : z8.toInt = z4.toInt - p0.toInt := by first | exact oz_54599d90db g4 tz4 nc5 | omega
    exfalso
    omega
abbrev b_Lst_remove : ByteArray := prog_39_method_29_code
def y_Lst_remove : MethodName := ⟨"java/util/ArrayList", "remove", "(I)Ljava/lang/Object;"⟩
theorem d_Lst_remove_0 : decode b_Lst_remove 0 = .ok (.iload_n 1, 1) := by decide +kernel
theorem d_Lst_remove_1 : decode b_Lst_remove 1 = .ok (.aload_n 0, 1) := by decide +kernel
theorem d_Lst_remove_2 : decode b_Lst_remove 2 = .ok (.getfield 48, 3) := by decide +kernel
theorem d_Lst_remove_5 : decode b_Lst_remove 5 = .ok (.invokestatic 118, 3) := by decide +kernel
theorem d_Lst_remove_8 : decode b_Lst_remove 8 = .ok (.pop, 1) := by decide +kernel
theorem d_Lst_remove_9 : decode b_Lst_remove 9 = .ok (.aload_n 0, 1) := by decide +kernel
theorem d_Lst_remove_10 : decode b_Lst_remove 10 = .ok (.getfield 9, 3) := by decide +kernel
theorem d_Lst_remove_13 : decode b_Lst_remove 13 = .ok (.astore_n 2, 1) := by decide +kernel
theorem d_Lst_remove_14 : decode b_Lst_remove 14 = .ok (.aload_n 2, 1) := by decide +kernel
theorem d_Lst_remove_15 : decode b_Lst_remove 15 = .ok (.iload_n 1, 1) := by decide +kernel
theorem d_Lst_remove_16 : decode b_Lst_remove 16 = .ok (.aaload, 1) := by decide +kernel
theorem d_Lst_remove_17 : decode b_Lst_remove 17 = .ok (.astore_n 3, 1) := by decide +kernel
theorem d_Lst_remove_18 : decode b_Lst_remove 18 = .ok (.aload_n 0, 1) := by decide +kernel
theorem d_Lst_remove_19 : decode b_Lst_remove 19 = .ok (.aload_n 2, 1) := by decide +kernel
theorem d_Lst_remove_20 : decode b_Lst_remove 20 = .ok (.iload_n 1, 1) := by decide +kernel
theorem d_Lst_remove_21 : decode b_Lst_remove 21 = .ok (.invokevirtual 144, 3) := by decide +kernel
theorem d_Lst_remove_24 : decode b_Lst_remove 24 = .ok (.aload_n 3, 1) := by decide +kernel
theorem d_Lst_remove_25 : decode b_Lst_remove 25 = .ok (.areturn, 1) := by decide +kernel
theorem q_Lst_remove : px_y y_Lst_remove 1 := by unfold px_y; decide +kernel
set_option maxHeartbeats 4000000 in
set_option maxRecDepth 100000 in
theorem c_Lst_remove (l : Launch) (D : va_G) (cs : Nat → ClassId) (hl0 : Nat) (lq : Nat) (lc : Nat) (lf : Nat → Int32) (lg : Nat → Option Nat) (p0 : Int32)  (g0 : lc ≤ 1000000) (g1 : 0 ≤ (lf 1).toInt) (g2 : (lf 1).toInt ≤ (lc : Int)) (g3 : 0 ≤ p0.toInt) (g4 : p0.toInt = (lf 1).toInt - 1) : MetR l y_Lst_remove b_Lst_remove 4 (.object "java/lang/Object") D cs 2 60 (0) (0) [.ref hl0, .int p0] [wd_Lst cs hl0 (fun _ => 0) (fun k => if k = 0 then (some lq) else none) lf (fun _ _ => 0) (fun _ _ => none), [(lq, .inl (cs 12, lc, .inr (.inr (.inr (.inr lg)))))]] (fun _ => True) (fun v ps => ∃ (lf' : Nat → Int32) (lg' : Nat → Option Nat), (ps = [wd_Lst cs hl0 (fun _ => 0) (fun k => if k = 0 then (some lq) else none) lf' (fun _ _ => 0) (fun _ _ => none), [(lq, .inl (cs 12, lc, .inr (.inr (.inr (.inr lg')))))]]) ∧ ((lf' 1).toInt = (lf 1).toInt - 1) ∧ (R_Lst_remove p0 lf lg lf' lg' v)) := by
  refine px_enter (by decide) (Nat.le_of_ble_eq_true rfl) ?_
  intro p e s m below meth c A ls hAe S hr hlk hnm hA hT hX hw hl
  have hl : lv_has ls 4 [(0, .ref hl0), (1, .int p0)] := hl
  have lp0 := Int32.le_toInt p0
  have up0 := Int32.toInt_lt p0
  refine lv_iload_n S.x S.b d_Lst_remove_0 rfl (lv_at hl 1 rfl) ?_
  refine lv_aload_n S.x S.b d_Lst_remove_1 rfl (lv_at hl 0 rfl) ?_
  refine px_get S k_Lst hT hw 0 0 1 (v := .int (lf 1)) rfl rfl rfl (by decide) m1_189 d_Lst_remove_2 ?_
  refine px_calli (pr := [wd_Lst cs hl0 (fun _ => 0) (fun k => if k = 0 then (some lq) else none) lf (fun _ _ => 0) (fun _ _ => none), [(lq, .inl (cs 12, lc, .inr (.inr (.inr (.inr lg)))))]]) (px_runS (As := [.int p0, .int (lf 1)]) (rest := []) S (c_Objects_checkIndex l D cs  p0 (lf 1)  (show 0 ≤ p0.toInt from by first | exact g3 | omega) (show p0.toInt < (lf 1).toInt from by first | exact oz_77ad2ce5bd g4 | omega) _) hT (pr := [wd_Lst cs hl0 (fun _ => 0) (fun k => if k = 0 then (some lq) else none) lf (fun _ _ => 0) (fun _ _ => none), [(lq, .inl (cs 12, lc, .inr (.inr (.inr (.inr lg)))))]]) (pcs := []) hw px_X.tt m4_82 m4_80 m4_81 m1_30 q_Objects_checkIndex ⟨Nat.le_of_ble_eq_true rfl, Nat.le_of_ble_eq_true rfl⟩ hl.1 rfl (Nat.le_of_ble_eq_true rfl) d_Lst_remove_5 ⟨Nat.le_of_ble_eq_true rfl, Nat.le_of_ble_eq_true rfl⟩) hw hA (fun v2 p1 H locs hp1 hw => ?_)
  obtain ⟨rfl, e3⟩ := hp1
  have e3 : R_Objects_checkIndex p0 (lf 1) v2 := e3
  have hw : pw D A s.heap H locs [wd_Lst cs hl0 (fun _ => 0) (fun k => if k = 0 then (some lq) else none) lf (fun _ _ => 0) (fun _ _ => none), [(lq, .inl (cs 12, lc, .inr (.inr (.inr (.inr lg)))))]] := hw
  have lv2 := Int32.le_toInt v2
  have uv2 := Int32.toInt_lt v2
  refine lv_pop S.x S.b d_Lst_remove_8 rfl ?_
  refine lv_aload_n S.x S.b d_Lst_remove_9 rfl (lv_at hl 0 rfl) ?_
  refine px_get S k_Lst hT hw 0 0 0 (v := .ref lq) rfl rfl rfl (by decide) m1_188 d_Lst_remove_10 ?_
  refine lv_astore_n (lv' := [(2, .ref lq), (0, .ref hl0), (1, .int p0)]) S.x S.b d_Lst_remove_13 rfl hl (by decide) rfl (fun ls hl => ?_)
  refine lv_aload_n S.x S.b d_Lst_remove_14 rfl (lv_at hl 0 rfl) ?_
  refine lv_iload_n S.x S.b d_Lst_remove_15 rfl (lv_at hl 2 rfl) ?_
  refine px_aald S hT hw 1 0 12 (n := lc) (f := lg) rfl rfl rfl (x := p0) (vp_in_iff.mpr (by constructor <;> omega)) d_Lst_remove_16 ?_
  refine lq_astore_n (x := (lg p0.toNatClampNeg)) (lv' := [(3, va_rf (lg p0.toNatClampNeg)), (2, .ref lq), (0, .ref hl0), (1, .int p0)]) S.x S.b d_Lst_remove_17 rfl hl (by decide) rfl (fun ls hl => ?_)
  refine lv_aload_n S.x S.b d_Lst_remove_18 rfl (lv_at hl 2 rfl) ?_
  refine lv_aload_n S.x S.b d_Lst_remove_19 rfl (lv_at hl 1 rfl) ?_
  refine lv_iload_n S.x S.b d_Lst_remove_20 rfl (lv_at hl 3 rfl) ?_
  refine px_callv (pr := []) (px_runV (As := [.ref lq, .int p0]) (rest := []) S (c_Lst_fastRemove l D cs hl0 lq lc lf lg p0  (show lc ≤ 1000000 from by first | exact g0 | omega) (show 0 ≤ (lf 1).toInt from by first | exact g1 | omega) (show (lf 1).toInt ≤ (lc : Int) from by first | exact g2 | omega) (show 0 ≤ p0.toInt from by first | exact g3 | omega) (show p0.toInt = (lf 1).toInt - 1 from by first | exact g4 | omega) _) hT (pr := []) (pcs := [wd_Lst cs hl0 (fun _ => 0) (fun k => if k = 0 then (some lq) else none) lf (fun _ _ => 0) (fun _ _ => none), [(lq, .inl (cs 12, lc, .inr (.inr (.inr (.inr lg)))))]]) hw px_X.tt (px_recv hT hw 0 0 rfl rfl rfl) m4_87 m4_84 m4_86 ms_2_4 m1_10 q_Lst_fastRemove ⟨Nat.le_of_ble_eq_true rfl, Nat.le_of_ble_eq_true rfl⟩ hl.1 rfl (Nat.le_of_ble_eq_true rfl) d_Lst_remove_21 ⟨Nat.le_of_ble_eq_true rfl, Nat.le_of_ble_eq_true rfl⟩) hw hA (fun p6 H locs hp6 hw => ?_)
  obtain ⟨lf4, lg5, rfl, e8, e9⟩ := hp6
  have e8 : (lf4 1).toInt = (lf 1).toInt - 1 := e8
  have e9 : R_Lst_fastRemove p0 lf lg lf4 lg5 := e9
  have hw : pw D A s.heap H locs [wd_Lst cs hl0 (fun _ => 0) (fun k => if k = 0 then (some lq) else none) lf4 (fun _ _ => 0) (fun _ _ => none), [(lq, .inl (cs 12, lc, .inr (.inr (.inr (.inr lg5)))))]] := hw
  refine lq_aload_n (x := (lg p0.toNatClampNeg)) S.x S.b d_Lst_remove_24 rfl (lv_at hl 0 rfl) ?_
  exact px_aret (v := (lg p0.toNatClampNeg)) S hr (Or.inl ⟨_, rfl⟩) hlk hAe hw (Nat.le_of_ble_eq_true rfl) (Nat.le_of_ble_eq_true rfl) (⟨lf4, lg5, rfl, (show (lf4 1).toInt = (lf 1).toInt - 1 from by first | exact e8 | omega), (show R_Lst_remove p0 lf lg lf4 lg5 (lg p0.toNatClampNeg) from (Or.inl ⟨v2, e3, lf4, lg5, e9, rfl, rfl, rfl⟩))⟩) d_Lst_remove_25
