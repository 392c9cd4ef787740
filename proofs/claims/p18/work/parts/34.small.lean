theorem oz_037caa6b79 {a0 a1 : Int} (h0 : a0 = a1 + (1 : Int)) : a0 = a1 + 1 := by omega
theorem m3_16 : Cond.fieldLink "HomeSystem" 73 "HomeSystem" "told" "I" ∈ AL := AL_3 (List.mem_of_getElem? (i := 16) rfl) rfl
theorem m3_17 : Cond.fieldLink "HomeSystem" 45 "HomeSystem" "lifeLeft" "I" ∈ AL := AL_3 (List.mem_of_getElem? (i := 17) rfl) rfl
theorem m4_232 : Cond.fieldLink "HomeSystem$Operand" 27 "HomeSystem$Operand" "rank" "I" ∈ AL := AL_4 (List.mem_of_getElem? (i := 232) rfl) rfl
theorem m2_105 : Cond.fieldLink "HomeSystem$Program" 22 "HomeSystem$Program" "size" "I" ∈ AL := AL_2 (List.mem_of_getElem? (i := 105) rfl) rfl
/-- four words, written behind one another -/
def em4 (cd : Nat → Int32) (at_ p0 p1 p2 p3 : Int32) : Nat → Int32 := upd (upd (upd (upd cd at_.toNatClampNeg p0) (at_ + 1).toNatClampNeg p1) (at_ + 2).toNatClampNeg p2) (at_ + 3).toNatClampNeg p3
abbrev b_Hs_place : ByteArray := prog_1_method_6_code
def y_Hs_place : MethodName := ⟨"HomeSystem", "place", "()I"⟩
theorem d_Hs_place_0 : decode b_Hs_place 0 = .ok (.aload_n 0, 1) := by decide +kernel
theorem d_Hs_place_1 : decode b_Hs_place 1 = .ok (.getfield 73, 3) := by decide +kernel
theorem d_Hs_place_4 : decode b_Hs_place 4 = .ok (.ireturn, 1) := by decide +kernel
theorem q_Hs_place : px_y y_Hs_place 0 := by unfold px_y; decide +kernel
set_option maxHeartbeats 4000000 in
set_option maxRecDepth 100000 in
theorem c_Hs_place (l : Launch) (D : va_G) (cs : Nat → ClassId) (h : Nat) (r : Nat → Nat) (o : Nat → Option Nat) (g : Nat → Nat → Option Nat) (f : Nat → Int32) (a : Nat → Nat → Int32)   : MetI l y_Hs_place b_Hs_place 1 (.int) D cs 0 0 (0) (0) [.ref h] [wd_Hs cs h r o f a g] (fun _ => True) (fun v ps => (ps = [wd_Hs cs h r o f a g]) ∧ (v.toInt = (f 4).toInt)) := by
  refine px_enter (by decide) (Nat.le_of_ble_eq_true rfl) ?_
  intro p e s m below meth c A ls hAe S hr hlk hnm hA hT hX hw hl
  replace hl : lv_has ls 1 [(0, .ref h)] := hl
  refine lv_aload_n S.x S.b d_Hs_place_0 rfl (lv_at hl 0 rfl) ?_
  refine px_get S k_Hs hT hw 0 0 4 (v := .int (f 4)) rfl rfl rfl (by decide) m3_16 d_Hs_place_1 ?_
  exact px_iret (v := (f 4)) S hr rfl hlk hAe hw (Nat.le_of_ble_eq_true rfl) (Nat.le_of_ble_eq_true rfl) (⟨rfl, (show (f 4).toInt = (f 4).toInt from rfl)⟩) d_Hs_place_4
abbrev b_Hs_life : ByteArray := prog_1_method_19_code
def y_Hs_life : MethodName := ⟨"HomeSystem", "life", "()I"⟩
theorem d_Hs_life_0 : decode b_Hs_life 0 = .ok (.aload_n 0, 1) := by decide +kernel
theorem d_Hs_life_1 : decode b_Hs_life 1 = .ok (.getfield 45, 3) := by decide +kernel
theorem d_Hs_life_4 : decode b_Hs_life 4 = .ok (.ireturn, 1) := by decide +kernel
theorem q_Hs_life : px_y y_Hs_life 0 := by unfold px_y; decide +kernel
set_option maxHeartbeats 4000000 in
set_option maxRecDepth 100000 in
theorem c_Hs_life (l : Launch) (D : va_G) (cs : Nat → ClassId) (h : Nat) (r : Nat → Nat) (o : Nat → Option Nat) (g : Nat → Nat → Option Nat) (f : Nat → Int32) (a : Nat → Nat → Int32)   : MetI l y_Hs_life b_Hs_life 1 (.int) D cs 0 0 (0) (0) [.ref h] [wd_Hs cs h r o f a g] (fun _ => True) (fun v ps => (ps = [wd_Hs cs h r o f a g]) ∧ (v.toInt = (f 5).toInt)) := by
  refine px_enter (by decide) (Nat.le_of_ble_eq_true rfl) ?_
  intro p e s m below meth c A ls hAe S hr hlk hnm hA hT hX hw hl
  replace hl : lv_has ls 1 [(0, .ref h)] := hl
  refine lv_aload_n S.x S.b d_Hs_life_0 rfl (lv_at hl 0 rfl) ?_
  refine px_get S k_Hs hT hw 0 0 5 (v := .int (f 5)) rfl rfl rfl (by decide) m3_17 d_Hs_life_1 ?_
  exact px_iret (v := (f 5)) S hr rfl hlk hAe hw (Nat.le_of_ble_eq_true rfl) (Nat.le_of_ble_eq_true rfl) (⟨rfl, (show (f 5).toInt = (f 5).toInt from rfl)⟩) d_Hs_life_4
abbrev b_Hs_pages : ByteArray := prog_1_method_17_code
def y_Hs_pages : MethodName := ⟨"HomeSystem", "pages", "()I"⟩
theorem d_Hs_pages_0 : decode b_Hs_pages 0 = .ok (.iconst 0, 1) := by decide +kernel
theorem d_Hs_pages_1 : decode b_Hs_pages 1 = .ok (.ireturn, 1) := by decide +kernel
theorem q_Hs_pages : px_y y_Hs_pages 0 := by unfold px_y; decide +kernel
set_option maxHeartbeats 4000000 in
set_option maxRecDepth 100000 in
theorem c_Hs_pages (l : Launch) (D : va_G) (cs : Nat → ClassId) (h : Nat) (r : Nat → Nat) (o : Nat → Option Nat) (g : Nat → Nat → Option Nat) (f : Nat → Int32) (a : Nat → Nat → Int32)   : MetI l y_Hs_pages b_Hs_pages 1 (.int) D cs 0 0 (0) (0) [.ref h] [wd_Hs cs h r o f a g] (fun _ => True) (fun v ps => (ps = [wd_Hs cs h r o f a g]) ∧ (v.toInt = 0)) := by
  refine px_enter (by decide) (Nat.le_of_ble_eq_true rfl) ?_
  intro p e s m below meth c A ls hAe S hr hlk hnm hA hT hX hw hl
  replace hl : lv_has ls 1 [(0, .ref h)] := hl
  have cst0 : (0 : Int32).toInt = 0 := rfl
  refine lv_iconst (v := 0) S.x S.b d_Hs_pages_0 (by decide) ?_
  exact px_iret (v := 0) S hr rfl hlk hAe hw (Nat.le_of_ble_eq_true rfl) (Nat.le_of_ble_eq_true rfl) (⟨rfl, (show (0 : Int) = 0 from by first | decide | omega)⟩) d_Hs_pages_1
abbrev b_Hs_wrong : ByteArray := prog_1_method_18_code
def y_Hs_wrong : MethodName := ⟨"HomeSystem", "wrong", "()I"⟩
theorem d_Hs_wrong_0 : decode b_Hs_wrong 0 = .ok (.iconst 0, 1) := by decide +kernel
theorem d_Hs_wrong_1 : decode b_Hs_wrong 1 = .ok (.ireturn, 1) := by decide +kernel
theorem q_Hs_wrong : px_y y_Hs_wrong 0 := by unfold px_y; decide +kernel
set_option maxHeartbeats 4000000 in
set_option maxRecDepth 100000 in
theorem c_Hs_wrong (l : Launch) (D : va_G) (cs : Nat → ClassId) (h : Nat) (r : Nat → Nat) (o : Nat → Option Nat) (g : Nat → Nat → Option Nat) (f : Nat → Int32) (a : Nat → Nat → Int32)   : MetI l y_Hs_wrong b_Hs_wrong 1 (.int) D cs 0 0 (0) (0) [.ref h] [wd_Hs cs h r o f a g] (fun _ => True) (fun v ps => (ps = [wd_Hs cs h r o f a g]) ∧ (v.toInt = 0)) := by
  refine px_enter (by decide) (Nat.le_of_ble_eq_true rfl) ?_
  intro p e s m below meth c A ls hAe S hr hlk hnm hA hT hX hw hl
  replace hl : lv_has ls 1 [(0, .ref h)] := hl
  have cst0 : (0 : Int32).toInt = 0 := rfl
  refine lv_iconst (v := 0) S.x S.b d_Hs_wrong_0 (by decide) ?_
  exact px_iret (v := 0) S hr rfl hlk hAe hw (Nat.le_of_ble_eq_true rfl) (Nat.le_of_ble_eq_true rfl) (⟨rfl, (show (0 : Int) = 0 from by first | decide | omega)⟩) d_Hs_wrong_1
abbrev b_Opd_become : ByteArray := prog_6_method_2_code
def y_Opd_become : MethodName := ⟨"HomeSystem$Operand", "become", "(I)V"⟩
theorem d_Opd_become_0 : decode b_Opd_become 0 = .ok (.aload_n 0, 1) := by decide +kernel
theorem d_Opd_become_1 : decode b_Opd_become 1 = .ok (.iconst 0, 1) := by decide +kernel
theorem d_Opd_become_2 : decode b_Opd_become 2 = .ok (.putfield 21, 3) := by decide +kernel
theorem d_Opd_become_5 : decode b_Opd_become 5 = .ok (.aload_n 0, 1) := by decide +kernel
theorem d_Opd_become_6 : decode b_Opd_become 6 = .ok (.iconst 0, 1) := by decide +kernel
theorem d_Opd_become_7 : decode b_Opd_become 7 = .ok (.putfield 27, 3) := by decide +kernel
theorem d_Opd_become_10 : decode b_Opd_become 10 = .ok (.aload_n 0, 1) := by decide +kernel
theorem d_Opd_become_11 : decode b_Opd_become 11 = .ok (.dup, 1) := by decide +kernel
theorem d_Opd_become_12 : decode b_Opd_become 12 = .ok (.getfield 9, 3) := by decide +kernel
theorem d_Opd_become_15 : decode b_Opd_become 15 = .ok (.iconst 1, 1) := by decide +kernel
theorem d_Opd_become_16 : decode b_Opd_become 16 = .ok (.iadd, 1) := by decide +kernel
theorem d_Opd_become_17 : decode b_Opd_become 17 = .ok (.putfield 9, 3) := by decide +kernel
theorem d_Opd_become_20 : decode b_Opd_become 20 = .ok (.aload_n 0, 1) := by decide +kernel
theorem d_Opd_become_21 : decode b_Opd_become 21 = .ok (.iload_n 1, 1) := by decide +kernel
theorem d_Opd_become_22 : decode b_Opd_become 22 = .ok (.putfield 24, 3) := by decide +kernel
theorem d_Opd_become_25 : decode b_Opd_become 25 = .ok (.return_, 1) := by decide +kernel
theorem q_Opd_become : px_y y_Opd_become 1 := by unfold px_y; decide +kernel
set_option maxHeartbeats 4000000 in
set_option maxRecDepth 100000 in
theorem c_Opd_become (l : Launch) (D : va_G) (cs : Nat → ClassId) (hx : Nat) (ox : Option Nat) (fx : Nat → Int32) (p0 : Int32)  (g0 : 1 ≤ (fx 5).toInt) (g1 : (fx 5).toInt ≤ 1000000) : MetV l y_Opd_become b_Opd_become 2 D cs 0 0 (0) (0) [.ref hx, .int p0] [wd_Opd cs hx (fun _ => 0) (fun k => if k = 4 then ox else none) fx (fun _ _ => 0) (fun _ _ => none)] (fun _ => True) (fun ps => ∃ (fx' : Nat → Int32), (ps = [wd_Opd cs hx (fun _ => 0) (fun k => if k = 4 then ox else none) fx' (fun _ _ => 0) (fun _ _ => none)]) ∧ ((fx' 0).toInt = (fx 0).toInt) ∧ ((fx' 1).toInt = 0) ∧ ((fx' 2).toInt = p0.toInt) ∧ ((fx' 3).toInt = (fx 3).toInt) ∧ ((fx' 5).toInt = (fx 5).toInt + 1) ∧ ((fx' 6).toInt = (fx 6).toInt) ∧ ((fx' 7).toInt = 0) ∧ ((fx' 8).toInt = (fx 8).toInt)) := by
  refine px_enter (by decide) (Nat.le_of_ble_eq_true rfl) ?_
  intro p e s m below meth c A ls hAe S hr hlk hnm hA hT hX hw hl
  replace hl : lv_has ls 2 [(0, .ref hx), (1, .int p0)] := hl
  have lp0 := Int32.le_toInt p0
  have up0 := Int32.toInt_lt p0
  have cst0 : (0 : Int32).toInt = 0 := rfl
  have cst1 : (1 : Int32).toInt = 1 := rfl
  refine lv_aload_n S.x S.b d_Opd_become_0 rfl (lv_at hl 0 rfl) ?_
  refine lv_iconst (v := 0) S.x S.b d_Opd_become_1 (by decide) ?_
  refine px_put S k_Opd hT hw 0 0 1 rfl rfl (by decide) m4_220 rfl rfl rfl (Nat.le_of_ble_eq_true rfl) d_Opd_become_2 (w' := wd_Opd cs hx (fun _ => 0) (fun k => if k = 4 then ox else none) (upd fx 1 0) (fun _ _ => 0) (fun _ _ => none)) (ps' := [wd_Opd cs hx (fun _ => 0) (fun k => if k = 4 then ox else none) (upd fx 1 0) (fun _ _ => 0) (fun _ _ => none)]) rfl rfl (fun H locs hw => ?_)
  refine lv_aload_n S.x S.b d_Opd_become_5 rfl (lv_at hl 0 rfl) ?_
  refine lv_iconst (v := 0) S.x S.b d_Opd_become_6 (by decide) ?_
  refine px_put S k_Opd hT hw 0 0 7 rfl rfl (by decide) m4_232 rfl rfl rfl (Nat.le_of_ble_eq_true rfl) d_Opd_become_7 (w' := wd_Opd cs hx (fun _ => 0) (fun k => if k = 4 then ox else none) (upd (upd fx 1 0) 7 0) (fun _ _ => 0) (fun _ _ => none)) (ps' := [wd_Opd cs hx (fun _ => 0) (fun k => if k = 4 then ox else none) (upd (upd fx 1 0) 7 0) (fun _ _ => 0) (fun _ _ => none)]) rfl rfl (fun H locs hw => ?_)
  refine lv_aload_n S.x S.b d_Opd_become_10 rfl (lv_at hl 0 rfl) ?_
  refine lv_dup S.x S.b d_Opd_become_11 rfl ?_
  refine px_get S k_Opd hT hw 0 0 5 (v := .int (fx 5)) rfl rfl rfl (by decide) m4_227 d_Opd_become_12 ?_
  refine lv_iconst (v := 1) S.x S.b d_Opd_become_15 (by decide) ?_
  refine lv_iadd S.x S.b d_Opd_become_16 ?_
  have lr1 := Int32.le_toInt (fx 5)
  have ur1 := Int32.toInt_lt (fx 5)
  refine lv_topi (fun z2 ez2 => ?_)
  have tz2 : z2.toInt = ((fx 5).toInt + (1 : Int) + 2147483648) % 4294967296 - 2147483648 := by rw [ez2]; exact i_add (fx 5) 1
  have lz2 := Int32.le_toInt z2
  have uz2 := Int32.toInt_lt z2
  try replace tz2 : z2.toInt = (fx 5).toInt + (1 : Int) := by omega
  refine px_put S k_Opd hT hw 0 0 5 rfl rfl (by decide) m4_227 rfl rfl rfl (Nat.le_of_ble_eq_true rfl) d_Opd_become_17 (w' := wd_Opd cs hx (fun _ => 0) (fun k => if k = 4 then ox else none) (upd (upd (upd fx 1 0) 5 z2) 7 0) (fun _ _ => 0) (fun _ _ => none)) (ps' := [wd_Opd cs hx (fun _ => 0) (fun k => if k = 4 then ox else none) (upd (upd (upd fx 1 0) 5 z2) 7 0) (fun _ _ => 0) (fun _ _ => none)]) rfl rfl (fun H locs hw => ?_)
  refine lv_aload_n S.x S.b d_Opd_become_20 rfl (lv_at hl 0 rfl) ?_
  refine lv_iload_n S.x S.b d_Opd_become_21 rfl (lv_at hl 1 rfl) ?_
  refine px_put S k_Opd hT hw 0 0 2 rfl rfl (by decide) m4_222 rfl rfl rfl (Nat.le_of_ble_eq_true rfl) d_Opd_become_22 (w' := wd_Opd cs hx (fun _ => 0) (fun k => if k = 4 then ox else none) (upd (upd (upd (upd fx 1 0) 2 p0) 5 z2) 7 0) (fun _ _ => 0) (fun _ _ => none)) (ps' := [wd_Opd cs hx (fun _ => 0) (fun k => if k = 4 then ox else none) (upd (upd (upd (upd fx 1 0) 2 p0) 5 z2) 7 0) (fun _ _ => 0) (fun _ _ => none)]) rfl rfl (fun H locs hw => ?_)
  exact px_vret S hr hlk hAe hw (Nat.le_of_ble_eq_true rfl) (Nat.le_of_ble_eq_true rfl) (⟨(upd (upd (upd (upd fx 1 0) 2 p0) 5 z2) 7 0), rfl, (show (fx 0).toInt = (fx 0).toInt from rfl), (show (0 : Int) = 0 from by first | decide | omega), (show p0.toInt = p0.toInt from rfl), (show (fx 3).toInt = (fx 3).toInt from rfl), (show z2.toInt = (fx 5).toInt + 1 from by first | exact oz_037caa6b79 tz2 | omega), (show (fx 6).toInt = (fx 6).toInt from rfl), (show (0 : Int) = 0 from by first | decide | omega), (show (fx 8).toInt = (fx 8).toInt from rfl)⟩) d_Opd_become_25
abbrev b_Exp_rank : ByteArray := prog_3_method_2_code
def y_Exp_rank : MethodName := ⟨"HomeSystem$Expressions", "rank", "(I)I"⟩
theorem d_Exp_rank_0 : decode b_Exp_rank 0 = .ok (.iload_n 0, 1) := by decide +kernel
theorem d_Exp_rank_1 : decode b_Exp_rank 1 = .ok (.lookupswitch 180 #[(37, 177), (38, 163), (42, 177), (43, 174), (45, 174), (47, 177), (60, 168), (62, 168), (94, 161), (124, 159), (130, 165), (131, 165), (132, 168), (133, 168), (134, 171), (135, 171), (136, 157), (137, 155)], 155) := by decide +kernel
theorem d_Exp_rank_156 : decode b_Exp_rank 156 = .ok (.iconst 1, 1) := by decide +kernel
theorem d_Exp_rank_157 : decode b_Exp_rank 157 = .ok (.ireturn, 1) := by decide +kernel
theorem d_Exp_rank_158 : decode b_Exp_rank 158 = .ok (.iconst 2, 1) := by decide +kernel
theorem d_Exp_rank_159 : decode b_Exp_rank 159 = .ok (.ireturn, 1) := by decide +kernel
theorem d_Exp_rank_160 : decode b_Exp_rank 160 = .ok (.iconst 3, 1) := by decide +kernel
theorem d_Exp_rank_161 : decode b_Exp_rank 161 = .ok (.ireturn, 1) := by decide +kernel
theorem d_Exp_rank_162 : decode b_Exp_rank 162 = .ok (.iconst 4, 1) := by decide +kernel
theorem d_Exp_rank_163 : decode b_Exp_rank 163 = .ok (.ireturn, 1) := by decide +kernel
theorem d_Exp_rank_164 : decode b_Exp_rank 164 = .ok (.iconst 5, 1) := by decide +kernel
theorem d_Exp_rank_165 : decode b_Exp_rank 165 = .ok (.ireturn, 1) := by decide +kernel
theorem d_Exp_rank_166 : decode b_Exp_rank 166 = .ok (.bipush 6, 2) := by decide +kernel
theorem d_Exp_rank_168 : decode b_Exp_rank 168 = .ok (.ireturn, 1) := by decide +kernel
theorem d_Exp_rank_169 : decode b_Exp_rank 169 = .ok (.bipush 7, 2) := by decide +kernel
theorem d_Exp_rank_171 : decode b_Exp_rank 171 = .ok (.ireturn, 1) := by decide +kernel
theorem d_Exp_rank_172 : decode b_Exp_rank 172 = .ok (.bipush 8, 2) := by decide +kernel
theorem d_Exp_rank_174 : decode b_Exp_rank 174 = .ok (.ireturn, 1) := by decide +kernel
theorem d_Exp_rank_175 : decode b_Exp_rank 175 = .ok (.bipush 9, 2) := by decide +kernel
theorem d_Exp_rank_177 : decode b_Exp_rank 177 = .ok (.ireturn, 1) := by decide +kernel
theorem d_Exp_rank_178 : decode b_Exp_rank 178 = .ok (.bipush 10, 2) := by decide +kernel
theorem d_Exp_rank_180 : decode b_Exp_rank 180 = .ok (.ireturn, 1) := by decide +kernel
theorem d_Exp_rank_181 : decode b_Exp_rank 181 = .ok (.iconst 0, 1) := by decide +kernel
theorem d_Exp_rank_182 : decode b_Exp_rank 182 = .ok (.ireturn, 1) := by decide +kernel
theorem q_Exp_rank : px_y y_Exp_rank 1 := by unfold px_y; decide +kernel
abbrev b_Exp_isPrefix : ByteArray := prog_3_method_3_code
def y_Exp_isPrefix : MethodName := ⟨"HomeSystem$Expressions", "isPrefix", "(I)Z"⟩
theorem d_Exp_isPrefix_0 : decode b_Exp_isPrefix 0 = .ok (.iload_n 0, 1) := by decide +kernel
theorem d_Exp_isPrefix_1 : decode b_Exp_isPrefix 1 = .ok (.bipush 45, 2) := by decide +kernel
theorem d_Exp_isPrefix_3 : decode b_Exp_isPrefix 3 = .ok (.if_icmp .eq 35, 3) := by decide +kernel
theorem d_Exp_isPrefix_6 : decode b_Exp_isPrefix 6 = .ok (.iload_n 0, 1) := by decide +kernel
theorem d_Exp_isPrefix_7 : decode b_Exp_isPrefix 7 = .ok (.bipush 43, 2) := by decide +kernel
theorem d_Exp_isPrefix_9 : decode b_Exp_isPrefix 9 = .ok (.if_icmp .eq 29, 3) := by decide +kernel
theorem d_Exp_isPrefix_12 : decode b_Exp_isPrefix 12 = .ok (.iload_n 0, 1) := by decide +kernel
theorem d_Exp_isPrefix_13 : decode b_Exp_isPrefix 13 = .ok (.bipush 33, 2) := by decide +kernel
theorem d_Exp_isPrefix_15 : decode b_Exp_isPrefix 15 = .ok (.if_icmp .eq 23, 3) := by decide +kernel
theorem d_Exp_isPrefix_18 : decode b_Exp_isPrefix 18 = .ok (.iload_n 0, 1) := by decide +kernel
theorem d_Exp_isPrefix_19 : decode b_Exp_isPrefix 19 = .ok (.bipush 126, 2) := by decide +kernel
theorem d_Exp_isPrefix_21 : decode b_Exp_isPrefix 21 = .ok (.if_icmp .eq 17, 3) := by decide +kernel
theorem d_Exp_isPrefix_24 : decode b_Exp_isPrefix 24 = .ok (.iload_n 0, 1) := by decide +kernel
theorem d_Exp_isPrefix_25 : decode b_Exp_isPrefix 25 = .ok (.sipush 138, 3) := by decide +kernel
theorem d_Exp_isPrefix_28 : decode b_Exp_isPrefix 28 = .ok (.if_icmp .eq 10, 3) := by decide +kernel
theorem d_Exp_isPrefix_31 : decode b_Exp_isPrefix 31 = .ok (.iload_n 0, 1) := by decide +kernel
theorem d_Exp_isPrefix_32 : decode b_Exp_isPrefix 32 = .ok (.sipush 139, 3) := by decide +kernel
theorem d_Exp_isPrefix_35 : decode b_Exp_isPrefix 35 = .ok (.if_icmp .ne 7, 3) := by decide +kernel
theorem d_Exp_isPrefix_38 : decode b_Exp_isPrefix 38 = .ok (.iconst 1, 1) := by decide +kernel
theorem d_Exp_isPrefix_39 : decode b_Exp_isPrefix 39 = .ok (.goto 4, 3) := by decide +kernel
theorem d_Exp_isPrefix_42 : decode b_Exp_isPrefix 42 = .ok (.iconst 0, 1) := by decide +kernel
theorem d_Exp_isPrefix_43 : decode b_Exp_isPrefix 43 = .ok (.ireturn, 1) := by decide +kernel
theorem q_Exp_isPrefix : px_y y_Exp_isPrefix 1 := by unfold px_y; decide +kernel
abbrev b_Prg_emit : ByteArray := prog_7_method_2_code
def y_Prg_emit : MethodName := ⟨"HomeSystem$Program", "emit", "(IIII)I"⟩
theorem d_Prg_emit_0 : decode b_Prg_emit 0 = .ok (.aload_n 0, 1) := by decide +kernel
theorem d_Prg_emit_1 : decode b_Prg_emit 1 = .ok (.getfield 22, 3) := by decide +kernel
theorem d_Prg_emit_4 : decode b_Prg_emit 4 = .ok (.istore 5, 2) := by decide +kernel
theorem d_Prg_emit_6 : decode b_Prg_emit 6 = .ok (.iload 5, 2) := by decide +kernel
theorem d_Prg_emit_8 : decode b_Prg_emit 8 = .ok (.ifCond .lt 62, 3) := by decide +kernel
theorem d_Prg_emit_11 : decode b_Prg_emit 11 = .ok (.iload 5, 2) := by decide +kernel
theorem d_Prg_emit_13 : decode b_Prg_emit 13 = .ok (.iconst 4, 1) := by decide +kernel
theorem d_Prg_emit_14 : decode b_Prg_emit 14 = .ok (.iadd, 1) := by decide +kernel
theorem d_Prg_emit_15 : decode b_Prg_emit 15 = .ok (.aload_n 0, 1) := by decide +kernel
theorem d_Prg_emit_16 : decode b_Prg_emit 16 = .ok (.getfield 9, 3) := by decide +kernel
theorem d_Prg_emit_19 : decode b_Prg_emit 19 = .ok (.arraylength, 1) := by decide +kernel
theorem d_Prg_emit_20 : decode b_Prg_emit 20 = .ok (.if_icmp .gt 50, 3) := by decide +kernel
theorem d_Prg_emit_23 : decode b_Prg_emit 23 = .ok (.aload_n 0, 1) := by decide +kernel
theorem d_Prg_emit_24 : decode b_Prg_emit 24 = .ok (.getfield 9, 3) := by decide +kernel
theorem d_Prg_emit_27 : decode b_Prg_emit 27 = .ok (.iload 5, 2) := by decide +kernel
theorem d_Prg_emit_29 : decode b_Prg_emit 29 = .ok (.iload_n 1, 1) := by decide +kernel
theorem d_Prg_emit_30 : decode b_Prg_emit 30 = .ok (.iastore, 1) := by decide +kernel
theorem d_Prg_emit_31 : decode b_Prg_emit 31 = .ok (.aload_n 0, 1) := by decide +kernel
theorem d_Prg_emit_32 : decode b_Prg_emit 32 = .ok (.getfield 9, 3) := by decide +kernel
theorem d_Prg_emit_35 : decode b_Prg_emit 35 = .ok (.iload 5, 2) := by decide +kernel
theorem d_Prg_emit_37 : decode b_Prg_emit 37 = .ok (.iconst 1, 1) := by decide +kernel
theorem d_Prg_emit_38 : decode b_Prg_emit 38 = .ok (.iadd, 1) := by decide +kernel
theorem d_Prg_emit_39 : decode b_Prg_emit 39 = .ok (.iload_n 2, 1) := by decide +kernel
theorem d_Prg_emit_40 : decode b_Prg_emit 40 = .ok (.iastore, 1) := by decide +kernel
theorem d_Prg_emit_41 : decode b_Prg_emit 41 = .ok (.aload_n 0, 1) := by decide +kernel
theorem d_Prg_emit_42 : decode b_Prg_emit 42 = .ok (.getfield 9, 3) := by decide +kernel
theorem d_Prg_emit_45 : decode b_Prg_emit 45 = .ok (.iload 5, 2) := by decide +kernel
theorem d_Prg_emit_47 : decode b_Prg_emit 47 = .ok (.iconst 2, 1) := by decide +kernel
theorem d_Prg_emit_48 : decode b_Prg_emit 48 = .ok (.iadd, 1) := by decide +kernel
theorem d_Prg_emit_49 : decode b_Prg_emit 49 = .ok (.iload_n 3, 1) := by decide +kernel
theorem d_Prg_emit_50 : decode b_Prg_emit 50 = .ok (.iastore, 1) := by decide +kernel
theorem d_Prg_emit_51 : decode b_Prg_emit 51 = .ok (.aload_n 0, 1) := by decide +kernel
theorem d_Prg_emit_52 : decode b_Prg_emit 52 = .ok (.getfield 9, 3) := by decide +kernel
theorem d_Prg_emit_55 : decode b_Prg_emit 55 = .ok (.iload 5, 2) := by decide +kernel
theorem d_Prg_emit_57 : decode b_Prg_emit 57 = .ok (.iconst 3, 1) := by decide +kernel
theorem d_Prg_emit_58 : decode b_Prg_emit 58 = .ok (.iadd, 1) := by decide +kernel
theorem d_Prg_emit_59 : decode b_Prg_emit 59 = .ok (.iload 4, 2) := by decide +kernel
theorem d_Prg_emit_61 : decode b_Prg_emit 61 = .ok (.iastore, 1) := by decide +kernel
theorem d_Prg_emit_62 : decode b_Prg_emit 62 = .ok (.aload_n 0, 1) := by decide +kernel
theorem d_Prg_emit_63 : decode b_Prg_emit 63 = .ok (.iload 5, 2) := by decide +kernel
theorem d_Prg_emit_65 : decode b_Prg_emit 65 = .ok (.iconst 4, 1) := by decide +kernel
theorem d_Prg_emit_66 : decode b_Prg_emit 66 = .ok (.iadd, 1) := by decide +kernel
theorem d_Prg_emit_67 : decode b_Prg_emit 67 = .ok (.putfield 22, 3) := by decide +kernel
theorem d_Prg_emit_70 : decode b_Prg_emit 70 = .ok (.iload 5, 2) := by decide +kernel
theorem d_Prg_emit_72 : decode b_Prg_emit 72 = .ok (.ireturn, 1) := by decide +kernel
theorem q_Prg_emit : px_y y_Prg_emit 4 := by unfold px_y; decide +kernel
