theorem oz_117e7b2a6a  : (0 : Int) ≤ 10 := by omega
theorem oz_b9672dc21f  : 0 ≤ (10 : Int) := by omega
theorem oz_8b73a41944  : (10 : Int) ≤ 10 := by omega
theorem oz_f21dceca30  : 0 ≤ (5 : Int) := by omega
theorem oz_1e2ee4b499  : (5 : Int) ≤ 10 := by omega
theorem oz_ef1109059f  : 0 ≤ (9 : Int) := by omega
theorem oz_3e940f027f  : (9 : Int) ≤ 10 := by omega
theorem oz_096f6f1d83  : 0 ≤ (7 : Int) := by omega
theorem oz_8cd2080322  : (7 : Int) ≤ 10 := by omega
theorem oz_8aa1b7a920  : 0 ≤ (4 : Int) := by omega
theorem oz_e3980d5913  : (4 : Int) ≤ 10 := by omega
theorem oz_e98d287a2d  : 0 ≤ (3 : Int) := by omega
theorem oz_9d2271b33c  : (3 : Int) ≤ 10 := by omega
theorem oz_7b65a14e92  : 0 ≤ (6 : Int) := by omega
theorem oz_403354d009  : (6 : Int) ≤ 10 := by omega
theorem oz_e9a76ff475  : 0 ≤ (8 : Int) := by omega
theorem oz_7d49d523c5  : (8 : Int) ≤ 10 := by omega
theorem oz_5e333f7fca  : (2 : Int) ≤ 10 := by omega
theorem oz_7f2d4b7cbd  : (1 : Int) ≤ 10 := by omega
theorem oz_bb6abe9165 {a0 a1 : Int} (h0 : a0 = a1 + (4 : Int)) : a0 = a1 + 4 := by omega
theorem oz_5ee6447015 {a0 a2 a3 : Int} {n1 : Nat} (h0 : a2 = (n1 : Int)) (h1 : a3 = a0 + (4 : Int)) (h2 : ¬ a2 < a3) : a0 + 4 ≤ (n1 : Int) := by omega
theorem m3_16 : Cond.fieldLink "HomeSystem" 73 "HomeSystem" "told" "I" ∈ AL := AL_3 (List.mem_of_getElem? (i := 16) rfl) rfl
theorem m3_17 : Cond.fieldLink "HomeSystem" 45 "HomeSystem" "lifeLeft" "I" ∈ AL := AL_3 (List.mem_of_getElem? (i := 17) rfl) rfl
theorem m4_232 : Cond.fieldLink "HomeSystem$Operand" 27 "HomeSystem$Operand" "rank" "I" ∈ AL := AL_4 (List.mem_of_getElem? (i := 232) rfl) rfl
theorem m2_105 : Cond.fieldLink "HomeSystem$Program" 22 "HomeSystem$Program" "size" "I" ∈ AL := AL_2 (List.mem_of_getElem? (i := 105) rfl) rfl
/-- four words, written behind one another -/
def em4 (cd : Nat → Int32) (at_ p0 p1 p2 p3 : Int32) : Nat → Int32 := upd (upd (upd (upd cd at_.toNatClampNeg p0) (at_ + 1).toNatClampNeg p1) (at_ + 2).toNatClampNeg p2) (at_ + 3).toNatClampNeg p3
abbrev b_Hs_place : ByteArray := prog_1_method_6_code
def y_Hs_place : MethodName := ⟨"HomeSystem", "place", "()I"⟩
theorem d_Hs_place_0 : decode b_Hs_place 0 = .ok (.aload_n 0, 1) := by decide +kernel
theorem d_Hs_place_1 : decode b_Hs_place 1 = .ok (.getfield 73, 3) := by decide +kernel
theorem d_Hs_place_4 : decode b_Hs_place 4 = .ok (.ireturn, 1) := by decide +kernel
theorem q_Hs_place : px_y y_Hs_place 0 := by unfold px_y; decide +kernel
set_option maxHeartbeats 4000000 in
set_option maxRecDepth 100000 in
theorem c_Hs_place (l : Launch) (D : va_G) (cs : Nat → ClassId) (h : Nat) (r : Nat → Nat) (o : Nat → Option Nat) (g : Nat → Nat → Option Nat) (f : Nat → Int32) (a : Nat → Nat → Int32)   : MetI l y_Hs_place b_Hs_place 1 (.int) D cs 0 0 (0) (0) [.ref h] [wd_Hs cs h r o f a g] (fun _ => True) (fun v ps => (ps = [wd_Hs cs h r o f a g]) ∧ (v.toInt = (f 4).toInt) ∧ (R_Hs_place f v)) := by
  refine px_enter (by decide) (Nat.le_of_ble_eq_true rfl) ?_
  intro p e s m below meth c A ls hAe S hr hlk hnm hA hT hX hw hl
  have hl : lv_has ls 1 [(0, .ref h)] := hl
  refine lv_aload_n S.x S.b d_Hs_place_0 rfl (lv_at hl 0 rfl) ?_
  refine px_get S k_Hs hT hw 0 0 4 (v := .int (f 4)) rfl rfl rfl (by decide) m3_16 d_Hs_place_1 ?_
  exact px_iret (v := (f 4)) S hr rfl hlk hAe hw (Nat.le_of_ble_eq_true rfl) (Nat.le_of_ble_eq_true rfl) (⟨rfl, (show (f 4).toInt = (f 4).toInt from rfl), (show R_Hs_place f (f 4) from (Or.inl rfl))⟩) d_Hs_place_4
abbrev b_Hs_life : ByteArray := prog_1_method_19_code
def y_Hs_life : MethodName := ⟨"HomeSystem", "life", "()I"⟩
theorem d_Hs_life_0 : decode b_Hs_life 0 = .ok (.aload_n 0, 1) := by decide +kernel
theorem d_Hs_life_1 : decode b_Hs_life 1 = .ok (.getfield 45, 3) := by decide +kernel
theorem d_Hs_life_4 : decode b_Hs_life 4 = .ok (.ireturn, 1) := by decide +kernel
theorem q_Hs_life : px_y y_Hs_life 0 := by unfold px_y; decide +kernel
set_option maxHeartbeats 4000000 in
set_option maxRecDepth 100000 in
theorem c_Hs_life (l : Launch) (D : va_G) (cs : Nat → ClassId) (h : Nat) (r : Nat → Nat) (o : Nat → Option Nat) (g : Nat → Nat → Option Nat) (f : Nat → Int32) (a : Nat → Nat → Int32)   : MetI l y_Hs_life b_Hs_life 1 (.int) D cs 0 0 (0) (0) [.ref h] [wd_Hs cs h r o f a g] (fun _ => True) (fun v ps => (ps = [wd_Hs cs h r o f a g]) ∧ (v.toInt = (f 5).toInt) ∧ (R_Hs_life f v)) := by
  refine px_enter (by decide) (Nat.le_of_ble_eq_true rfl) ?_
  intro p e s m below meth c A ls hAe S hr hlk hnm hA hT hX hw hl
  have hl : lv_has ls 1 [(0, .ref h)] := hl
  refine lv_aload_n S.x S.b d_Hs_life_0 rfl (lv_at hl 0 rfl) ?_
  refine px_get S k_Hs hT hw 0 0 5 (v := .int (f 5)) rfl rfl rfl (by decide) m3_17 d_Hs_life_1 ?_
  exact px_iret (v := (f 5)) S hr rfl hlk hAe hw (Nat.le_of_ble_eq_true rfl) (Nat.le_of_ble_eq_true rfl) (⟨rfl, (show (f 5).toInt = (f 5).toInt from rfl), (show R_Hs_life f (f 5) from (Or.inl rfl))⟩) d_Hs_life_4
abbrev b_Hs_pages : ByteArray := prog_1_method_17_code
def y_Hs_pages : MethodName := ⟨"HomeSystem", "pages", "()I"⟩
theorem d_Hs_pages_0 : decode b_Hs_pages 0 = .ok (.iconst 0, 1) := by decide +kernel
theorem d_Hs_pages_1 : decode b_Hs_pages 1 = .ok (.ireturn, 1) := by decide +kernel
theorem q_Hs_pages : px_y y_Hs_pages 0 := by unfold px_y; decide +kernel
set_option maxHeartbeats 4000000 in
set_option maxRecDepth 100000 in
theorem c_Hs_pages (l : Launch) (D : va_G) (cs : Nat → ClassId) (h : Nat) (r : Nat → Nat) (o : Nat → Option Nat) (g : Nat → Nat → Option Nat) (f : Nat → Int32) (a : Nat → Nat → Int32)   : MetI l y_Hs_pages b_Hs_pages 1 (.int) D cs 0 0 (0) (0) [.ref h] [wd_Hs cs h r o f a g] (fun _ => True) (fun v ps => (ps = [wd_Hs cs h r o f a g]) ∧ (v.toInt = 0) ∧ (R_Hs_pages v)) := by
  refine px_enter (by decide) (Nat.le_of_ble_eq_true rfl) ?_
  intro p e s m below meth c A ls hAe S hr hlk hnm hA hT hX hw hl
  have hl : lv_has ls 1 [(0, .ref h)] := hl
  have cst0 : (0 : Int32).toInt = 0 := rfl
  refine lv_iconst (v := 0) S.x S.b d_Hs_pages_0 (by decide) ?_
  exact px_iret (v := 0) S hr rfl hlk hAe hw (Nat.le_of_ble_eq_true rfl) (Nat.le_of_ble_eq_true rfl) (⟨rfl, (show (0 : Int) = 0 from by first | exact oz_7d1a308c7e | omega), (show R_Hs_pages (0 : Int32) from (Or.inl rfl))⟩) d_Hs_pages_1
abbrev b_Hs_wrong : ByteArray := prog_1_method_18_code
def y_Hs_wrong : MethodName := ⟨"HomeSystem", "wrong", "()I"⟩
theorem d_Hs_wrong_0 : decode b_Hs_wrong 0 = .ok (.iconst 0, 1) := by decide +kernel
theorem d_Hs_wrong_1 : decode b_Hs_wrong 1 = .ok (.ireturn, 1) := by decide +kernel
theorem q_Hs_wrong : px_y y_Hs_wrong 0 := by unfold px_y; decide +kernel
set_option maxHeartbeats 4000000 in
set_option maxRecDepth 100000 in
theorem c_Hs_wrong (l : Launch) (D : va_G) (cs : Nat → ClassId) (h : Nat) (r : Nat → Nat) (o : Nat → Option Nat) (g : Nat → Nat → Option Nat) (f : Nat → Int32) (a : Nat → Nat → Int32)   : MetI l y_Hs_wrong b_Hs_wrong 1 (.int) D cs 0 0 (0) (0) [.ref h] [wd_Hs cs h r o f a g] (fun _ => True) (fun v ps => (ps = [wd_Hs cs h r o f a g]) ∧ (v.toInt = 0) ∧ (R_Hs_wrong v)) := by
  refine px_enter (by decide) (Nat.le_of_ble_eq_true rfl) ?_
  intro p e s m below meth c A ls hAe S hr hlk hnm hA hT hX hw hl
  have hl : lv_has ls 1 [(0, .ref h)] := hl
  have cst0 : (0 : Int32).toInt = 0 := rfl
  refine lv_iconst (v := 0) S.x S.b d_Hs_wrong_0 (by decide) ?_
  exact px_iret (v := 0) S hr rfl hlk hAe hw (Nat.le_of_ble_eq_true rfl) (Nat.le_of_ble_eq_true rfl) (⟨rfl, (show (0 : Int) = 0 from by first | exact oz_7d1a308c7e | omega), (show R_Hs_wrong (0 : Int32) from (Or.inl rfl))⟩) d_Hs_wrong_1
abbrev b_Opd_become : ByteArray := prog_6_method_2_code
def y_Opd_become : MethodName := ⟨"HomeSystem$Operand", "become", "(I)V"⟩
theorem d_Opd_become_0 : decode b_Opd_become 0 = .ok (.aload_n 0, 1) := by decide +kernel
theorem d_Opd_become_1 : decode b_Opd_become 1 = .ok (.iconst 0, 1) := by decide +kernel
theorem d_Opd_become_2 : decode b_Opd_become 2 = .ok (.putfield 21, 3) := by decide +kernel
theorem d_Opd_become_5 : decode b_Opd_become 5 = .ok (.aload_n 0, 1) := by decide +kernel
theorem d_Opd_become_6 : decode b_Opd_become 6 = .ok (.iconst 0, 1) := by decide +kernel
theorem d_Opd_become_7 : decode b_Opd_become 7 = .ok (.putfield 27, 3) := by decide +kernel
theorem d_Opd_become_10 : decode b_Opd_become 10 = .ok (.aload_n 0, 1) := by decide +kernel
theorem d_Opd_become_11 : decode b_Opd_become 11 = .ok (.dup, 1) := by decide +kernel
theorem d_Opd_become_12 : decode b_Opd_become 12 = .ok (.getfield 9, 3) := by decide +kernel
theorem d_Opd_become_15 : decode b_Opd_become 15 = .ok (.iconst 1, 1) := by decide +kernel
theorem d_Opd_become_16 : decode b_Opd_become 16 = .ok (.iadd, 1) := by decide +kernel
theorem d_Opd_become_17 : decode b_Opd_become 17 = .ok (.putfield 9, 3) := by decide +kernel
theorem d_Opd_become_20 : decode b_Opd_become 20 = .ok (.aload_n 0, 1) := by decide +kernel
theorem d_Opd_become_21 : decode b_Opd_become 21 = .ok (.iload_n 1, 1) := by decide +kernel
theorem d_Opd_become_22 : decode b_Opd_become 22 = .ok (.putfield 24, 3) := by decide +kernel
theorem d_Opd_become_25 : decode b_Opd_become 25 = .ok (.return_, 1) := by decide +kernel
theorem q_Opd_become : px_y y_Opd_become 1 := by unfold px_y; decide +kernel
set_option maxHeartbeats 4000000 in
set_option maxRecDepth 100000 in
theorem c_Opd_become (l : Launch) (D : va_G) (cs : Nat → ClassId) (hx : Nat) (ox : Option Nat) (fx : Nat → Int32) (p0 : Int32)  (g0 : 1 ≤ (fx 5).toInt) (g1 : (fx 5).toInt ≤ 1000000) : MetV l y_Opd_become b_Opd_become 2 D cs 0 0 (0) (0) [.ref hx, .int p0] [wd_Opd cs hx (fun _ => 0) (fun k => if k = 4 then ox else none) fx (fun _ _ => 0) (fun _ _ => none)] (fun _ => True) (fun ps => ∃ (fx' : Nat → Int32), (ps = [wd_Opd cs hx (fun _ => 0) (fun k => if k = 4 then ox else none) fx' (fun _ _ => 0) (fun _ _ => none)]) ∧ ((fx' 0).toInt = (fx 0).toInt) ∧ ((fx' 1).toInt = 0) ∧ ((fx' 2).toInt = p0.toInt) ∧ ((fx' 3).toInt = (fx 3).toInt) ∧ ((fx' 5).toInt = (fx 5).toInt + 1) ∧ ((fx' 6).toInt = (fx 6).toInt) ∧ ((fx' 7).toInt = 0) ∧ ((fx' 8).toInt = (fx 8).toInt) ∧ (R_Opd_become p0 fx fx')) := by
  refine px_enter (by decide) (Nat.le_of_ble_eq_true rfl) ?_
  intro p e s m below meth c A ls hAe S hr hlk hnm hA hT hX hw hl
  have hl : lv_has ls 2 [(0, .ref hx), (1, .int p0)] := hl
  have lp0 := Int32.le_toInt p0
  have up0 := Int32.toInt_lt p0
  have cst0 : (0 : Int32).toInt = 0 := rfl
  have cst1 : (1 : Int32).toInt = 1 := rfl
  refine lv_aload_n S.x S.b d_Opd_become_0 rfl (lv_at hl 0 rfl) ?_
  refine lv_iconst (v := 0) S.x S.b d_Opd_become_1 (by decide) ?_
  refine px_put S k_Opd hT hw 0 0 1 rfl rfl (by decide) m4_220 rfl rfl rfl (Nat.le_of_ble_eq_true rfl) d_Opd_become_2 (w' := wd_Opd cs hx (fun _ => 0) (fun k => if k = 4 then ox else none) (upd fx 1 0) (fun _ _ => 0) (fun _ _ => none)) (ps' := [wd_Opd cs hx (fun _ => 0) (fun k => if k = 4 then ox else none) (upd fx 1 0) (fun _ _ => 0) (fun _ _ => none)]) rfl rfl (fun H locs hw => ?_)
  refine lv_aload_n S.x S.b d_Opd_become_5 rfl (lv_at hl 0 rfl) ?_
  refine lv_iconst (v := 0) S.x S.b d_Opd_become_6 (by decide) ?_
  refine px_put S k_Opd hT hw 0 0 7 rfl rfl (by decide) m4_232 rfl rfl rfl (Nat.le_of_ble_eq_true rfl) d_Opd_become_7 (w' := wd_Opd cs hx (fun _ => 0) (fun k => if k = 4 then ox else none) (upd (upd fx 1 0) 7 0) (fun _ _ => 0) (fun _ _ => none)) (ps' := [wd_Opd cs hx (fun _ => 0) (fun k => if k = 4 then ox else none) (upd (upd fx 1 0) 7 0) (fun _ _ => 0) (fun _ _ => none)]) rfl rfl (fun H locs hw => ?_)
  refine lv_aload_n S.x S.b d_Opd_become_10 rfl (lv_at hl 0 rfl) ?_
  refine lv_dup S.x S.b d_Opd_become_11 rfl ?_
  refine px_get S k_Opd hT hw 0 0 5 (v := .int (fx 5)) rfl rfl rfl (by decide) m4_227 d_Opd_become_12 ?_
  refine lv_iconst (v := 1) S.x S.b d_Opd_become_15 (by decide) ?_
  refine lv_iadd S.x S.b d_Opd_become_16 ?_
  have lr1 := Int32.le_toInt (fx 5)
  have ur1 := Int32.toInt_lt (fx 5)
  refine lv_topi (fun z2 ez2 => ?_)
  have tz2 : z2.toInt = ((fx 5).toInt + (1 : Int) + 2147483648) % 4294967296 - 2147483648 := by rw [ez2]; exact i_add (fx 5) 1
  have lz2 := Int32.le_toInt z2
  have uz2 := Int32.toInt_lt z2
  try replace tz2 : z2.toInt = (fx 5).toInt + (1 : Int) := by omega
  refine px_put S k_Opd hT hw 0 0 5 rfl rfl (by decide) m4_227 rfl rfl rfl (Nat.le_of_ble_eq_true rfl) d_Opd_become_17 (w' := wd_Opd cs hx (fun _ => 0) (fun k => if k = 4 then ox else none) (upd (upd (upd fx 1 0) 5 z2) 7 0) (fun _ _ => 0) (fun _ _ => none)) (ps' := [wd_Opd cs hx (fun _ => 0) (fun k => if k = 4 then ox else none) (upd (upd (upd fx 1 0) 5 z2) 7 0) (fun _ _ => 0) (fun _ _ => none)]) rfl rfl (fun H locs hw => ?_)
  refine lv_aload_n S.x S.b d_Opd_become_20 rfl (lv_at hl 0 rfl) ?_
  refine lv_iload_n S.x S.b d_Opd_become_21 rfl (lv_at hl 1 rfl) ?_
  refine px_put S k_Opd hT hw 0 0 2 rfl rfl (by decide) m4_222 rfl rfl rfl (Nat.le_of_ble_eq_true rfl) d_Opd_become_22 (w' := wd_Opd cs hx (fun _ => 0) (fun k => if k = 4 then ox else none) (upd (upd (upd (upd fx 1 0) 2 p0) 5 z2) 7 0) (fun _ _ => 0) (fun _ _ => none)) (ps' := [wd_Opd cs hx (fun _ => 0) (fun k => if k = 4 then ox else none) (upd (upd (upd (upd fx 1 0) 2 p0) 5 z2) 7 0) (fun _ _ => 0) (fun _ _ => none)]) rfl rfl (fun H locs hw => ?_)
  exact px_vret S hr hlk hAe hw (Nat.le_of_ble_eq_true rfl) (Nat.le_of_ble_eq_true rfl) (⟨(upd (upd (upd (upd fx 1 0) 2 p0) 5 z2) 7 0), rfl, (show (fx 0).toInt = (fx 0).toInt from rfl), (show (0 : Int) = 0 from by first | exact oz_7d1a308c7e | omega), (show p0.toInt = p0.toInt from rfl), (show (fx 3).toInt = (fx 3).toInt from rfl), (show z2.toInt = (fx 5).toInt + 1 from by first | exact oz_037caa6b79 tz2 | omega), (show (fx 6).toInt = (fx 6).toInt from rfl), (show (0 : Int) = 0 from by first | exact oz_7d1a308c7e | omega), (show (fx 8).toInt = (fx 8).toInt from rfl), (show R_Opd_become p0 fx (upd (upd (upd (upd fx 1 0) 2 p0) 5 z2) 7 0) from (Or.inl ⟨z2, ez2, rfl⟩))⟩) d_Opd_become_25
abbrev b_Exp_rank : ByteArray := prog_3_method_2_code
def y_Exp_rank : MethodName := ⟨"HomeSystem$Expressions", "rank", "(I)I"⟩
theorem d_Exp_rank_0 : decode b_Exp_rank 0 = .ok (.iload_n 0, 1) := by decide +kernel
theorem d_Exp_rank_1 : decode b_Exp_rank 1 = .ok (.lookupswitch 180 #[(37, 177), (38, 163), (42, 177), (43, 174), (45, 174), (47, 177), (60, 168), (62, 168), (94, 161), (124, 159), (130, 165), (131, 165), (132, 168), (133, 168), (134, 171), (135, 171), (136, 157), (137, 155)], 155) := by decide +kernel
theorem d_Exp_rank_156 : decode b_Exp_rank 156 = .ok (.iconst 1, 1) := by decide +kernel
theorem d_Exp_rank_157 : decode b_Exp_rank 157 = .ok (.ireturn, 1) := by decide +kernel
theorem d_Exp_rank_158 : decode b_Exp_rank 158 = .ok (.iconst 2, 1) := by decide +kernel
theorem d_Exp_rank_159 : decode b_Exp_rank 159 = .ok (.ireturn, 1) := by decide +kernel
theorem d_Exp_rank_160 : decode b_Exp_rank 160 = .ok (.iconst 3, 1) := by decide +kernel
theorem d_Exp_rank_161 : decode b_Exp_rank 161 = .ok (.ireturn, 1) := by decide +kernel
theorem d_Exp_rank_162 : decode b_Exp_rank 162 = .ok (.iconst 4, 1) := by decide +kernel
theorem d_Exp_rank_163 : decode b_Exp_rank 163 = .ok (.ireturn, 1) := by decide +kernel
theorem d_Exp_rank_164 : decode b_Exp_rank 164 = .ok (.iconst 5, 1) := by decide +kernel
theorem d_Exp_rank_165 : decode b_Exp_rank 165 = .ok (.ireturn, 1) := by decide +kernel
theorem d_Exp_rank_166 : decode b_Exp_rank 166 = .ok (.bipush 6, 2) := by decide +kernel
theorem d_Exp_rank_168 : decode b_Exp_rank 168 = .ok (.ireturn, 1) := by decide +kernel
theorem d_Exp_rank_169 : decode b_Exp_rank 169 = .ok (.bipush 7, 2) := by decide +kernel
theorem d_Exp_rank_171 : decode b_Exp_rank 171 = .ok (.ireturn, 1) := by decide +kernel
theorem d_Exp_rank_172 : decode b_Exp_rank 172 = .ok (.bipush 8, 2) := by decide +kernel
theorem d_Exp_rank_174 : decode b_Exp_rank 174 = .ok (.ireturn, 1) := by decide +kernel
theorem d_Exp_rank_175 : decode b_Exp_rank 175 = .ok (.bipush 9, 2) := by decide +kernel
theorem d_Exp_rank_177 : decode b_Exp_rank 177 = .ok (.ireturn, 1) := by decide +kernel
theorem d_Exp_rank_178 : decode b_Exp_rank 178 = .ok (.bipush 10, 2) := by decide +kernel
theorem d_Exp_rank_180 : decode b_Exp_rank 180 = .ok (.ireturn, 1) := by decide +kernel
theorem d_Exp_rank_181 : decode b_Exp_rank 181 = .ok (.iconst 0, 1) := by decide +kernel
theorem d_Exp_rank_182 : decode b_Exp_rank 182 = .ok (.ireturn, 1) := by decide +kernel
theorem q_Exp_rank : px_y y_Exp_rank 1 := by unfold px_y; decide +kernel
set_option maxHeartbeats 4000000 in
set_option maxRecDepth 100000 in
theorem c_Exp_rank (l : Launch) (D : va_G) (cs : Nat → ClassId)  (p0 : Int32)   : MetI l y_Exp_rank b_Exp_rank 1 (.int) D cs 0 0 (0) (0) [.int p0] [] (fun _ => True) (fun v ps => (ps = []) ∧ (0 ≤ v.toInt) ∧ (v.toInt ≤ 10) ∧ (R_Exp_rank p0 v)) := by
  refine px_enter (by decide) (Nat.le_of_ble_eq_true rfl) ?_
  intro p e s m below meth c A ls hAe S hr hlk hnm hA hT hX hw hl
  have hl : lv_has ls 1 [(0, .int p0)] := hl
  have lp0 := Int32.le_toInt p0
  have up0 := Int32.toInt_lt p0
  have cst0 : (0 : Int32).toInt = 0 := rfl
  have cst1 : (1 : Int32).toInt = 1 := rfl
  have cst2 : (2 : Int32).toInt = 2 := rfl
  have cst3 : (3 : Int32).toInt = 3 := rfl
  have cst4 : (4 : Int32).toInt = 4 := rfl
  have cst5 : (5 : Int32).toInt = 5 := rfl
  have cst6 : (6 : Int32).toInt = 6 := rfl
  have cst7 : (7 : Int32).toInt = 7 := rfl
  have cst8 : (8 : Int32).toInt = 8 := rfl
  have cst9 : (9 : Int32).toInt = 9 := rfl
  have cst10 : (10 : Int32).toInt = 10 := rfl
  refine lv_iload_n S.x S.b d_Exp_rank_0 rfl (lv_at hl 0 rfl) ?_
  refine px_lookD S (dt := 181) [37, 38, 42, 43, 45, 47, 60, 62, 94, 124, 130, 131, 132, 133, 134, 135, 136, 137] [(178, [37, 42, 47]), (164, [38]), (175, [43, 45]), (169, [60, 62, 132, 133]), (162, [94]), (160, [124]), (166, [130, 131]), (172, [134, 135]), (158, [136]), (156, [137])] d_Exp_rank_1 (by decide +kernel) (by decide) (by decide +kernel) (by decide +kernel) ?_ ?_
  · intro hdf_1
    refine lv_iconst (v := 0) S.x S.b d_Exp_rank_181 (by decide) ?_
    exact px_iret (v := 0) S hr rfl hlk hAe hw (Nat.le_of_ble_eq_true rfl) (Nat.le_of_ble_eq_true rfl) (⟨rfl, (show 0 ≤ (0 : Int) from by first | exact oz_5a341f00aa | omega), (show (0 : Int) ≤ 10 from by first | exact oz_117e7b2a6a | omega), (show R_Exp_rank p0 (0 : Int32) from (Or.inl (Or.inl ⟨hdf_1, rfl⟩)))⟩) d_Exp_rank_182
  · refine List.forall_mem_cons.mpr ⟨fun c2 => ?_, List.forall_mem_cons.mpr ⟨fun c2 => ?_, List.forall_mem_cons.mpr ⟨fun c2 => ?_, List.forall_mem_cons.mpr ⟨fun c2 => ?_, List.forall_mem_cons.mpr ⟨fun c2 => ?_, List.forall_mem_cons.mpr ⟨fun c2 => ?_, List.forall_mem_cons.mpr ⟨fun c2 => ?_, List.forall_mem_cons.mpr ⟨fun c2 => ?_, List.forall_mem_cons.mpr ⟨fun c2 => ?_, List.forall_mem_cons.mpr ⟨fun c2 => ?_, fun _ h => absurd h List.not_mem_nil⟩⟩⟩⟩⟩⟩⟩⟩⟩⟩
    · simp only [List.mem_cons, List.not_mem_nil, or_false] at c2
      refine lv_bipush (v := 10) S.x S.b d_Exp_rank_178 (by decide) ?_
      exact px_iret (v := 10) S hr rfl hlk hAe hw (Nat.le_of_ble_eq_true rfl) (Nat.le_of_ble_eq_true rfl) (⟨rfl, (show 0 ≤ (10 : Int) from by first | exact oz_b9672dc21f | omega), (show (10 : Int) ≤ 10 from by first | exact oz_8b73a41944 | omega), (show R_Exp_rank p0 (10 : Int32) from (Or.inl (Or.inr (Or.inl ⟨c2, rfl⟩))))⟩) d_Exp_rank_180
    · simp only [List.mem_cons, List.not_mem_nil, or_false] at c2
      refine lv_iconst (v := 5) S.x S.b d_Exp_rank_164 (by decide) ?_
      exact px_iret (v := 5) S hr rfl hlk hAe hw (Nat.le_of_ble_eq_true rfl) (Nat.le_of_ble_eq_true rfl) (⟨rfl, (show 0 ≤ (5 : Int) from by first | exact oz_f21dceca30 | omega), (show (5 : Int) ≤ 10 from by first | exact oz_1e2ee4b499 | omega), (show R_Exp_rank p0 (5 : Int32) from (Or.inl (Or.inr (Or.inr (Or.inl ⟨c2, rfl⟩)))))⟩) d_Exp_rank_165
    · simp only [List.mem_cons, List.not_mem_nil, or_false] at c2
      refine lv_bipush (v := 9) S.x S.b d_Exp_rank_175 (by decide) ?_
      exact px_iret (v := 9) S hr rfl hlk hAe hw (Nat.le_of_ble_eq_true rfl) (Nat.le_of_ble_eq_true rfl) (⟨rfl, (show 0 ≤ (9 : Int) from by first | exact oz_ef1109059f | omega), (show (9 : Int) ≤ 10 from by first | exact oz_3e940f027f | omega), (show R_Exp_rank p0 (9 : Int32) from (Or.inl (Or.inr (Or.inr (Or.inr (Or.inl ⟨c2, rfl⟩))))))⟩) d_Exp_rank_177
    · simp only [List.mem_cons, List.not_mem_nil, or_false] at c2
      refine lv_bipush (v := 7) S.x S.b d_Exp_rank_169 (by decide) ?_
      exact px_iret (v := 7) S hr rfl hlk hAe hw (Nat.le_of_ble_eq_true rfl) (Nat.le_of_ble_eq_true rfl) (⟨rfl, (show 0 ≤ (7 : Int) from by first | exact oz_096f6f1d83 | omega), (show (7 : Int) ≤ 10 from by first | exact oz_8cd2080322 | omega), (show R_Exp_rank p0 (7 : Int32) from (Or.inl (Or.inr (Or.inr (Or.inr (Or.inr (Or.inl ⟨c2, rfl⟩)))))))⟩) d_Exp_rank_171
    · simp only [List.mem_cons, List.not_mem_nil, or_false] at c2
      refine lv_iconst (v := 4) S.x S.b d_Exp_rank_162 (by decide) ?_
      exact px_iret (v := 4) S hr rfl hlk hAe hw (Nat.le_of_ble_eq_true rfl) (Nat.le_of_ble_eq_true rfl) (⟨rfl, (show 0 ≤ (4 : Int) from by first | exact oz_8aa1b7a920 | omega), (show (4 : Int) ≤ 10 from by first | exact oz_e3980d5913 | omega), (show R_Exp_rank p0 (4 : Int32) from (Or.inl (Or.inr (Or.inr (Or.inr (Or.inr (Or.inr (Or.inl ⟨c2, rfl⟩))))))))⟩) d_Exp_rank_163
    · simp only [List.mem_cons, List.not_mem_nil, or_false] at c2
      refine lv_iconst (v := 3) S.x S.b d_Exp_rank_160 (by decide) ?_
      exact px_iret (v := 3) S hr rfl hlk hAe hw (Nat.le_of_ble_eq_true rfl) (Nat.le_of_ble_eq_true rfl) (⟨rfl, (show 0 ≤ (3 : Int) from by first | exact oz_e98d287a2d | omega), (show (3 : Int) ≤ 10 from by first | exact oz_9d2271b33c | omega), (show R_Exp_rank p0 (3 : Int32) from (Or.inl (Or.inr (Or.inr (Or.inr (Or.inr (Or.inr (Or.inr (Or.inl ⟨c2, rfl⟩)))))))))⟩) d_Exp_rank_161
    · simp only [List.mem_cons, List.not_mem_nil, or_false] at c2
      refine lv_bipush (v := 6) S.x S.b d_Exp_rank_166 (by decide) ?_
      exact px_iret (v := 6) S hr rfl hlk hAe hw (Nat.le_of_ble_eq_true rfl) (Nat.le_of_ble_eq_true rfl) (⟨rfl, (show 0 ≤ (6 : Int) from by first | exact oz_7b65a14e92 | omega), (show (6 : Int) ≤ 10 from by first | exact oz_403354d009 | omega), (show R_Exp_rank p0 (6 : Int32) from (Or.inl (Or.inr (Or.inr (Or.inr (Or.inr (Or.inr (Or.inr (Or.inr (Or.inl ⟨c2, rfl⟩))))))))))⟩) d_Exp_rank_168
    · simp only [List.mem_cons, List.not_mem_nil, or_false] at c2
      refine lv_bipush (v := 8) S.x S.b d_Exp_rank_172 (by decide) ?_
      exact px_iret (v := 8) S hr rfl hlk hAe hw (Nat.le_of_ble_eq_true rfl) (Nat.le_of_ble_eq_true rfl) (⟨rfl, (show 0 ≤ (8 : Int) from by first | exact oz_e9a76ff475 | omega), (show (8 : Int) ≤ 10 from by first | exact oz_7d49d523c5 | omega), (show R_Exp_rank p0 (8 : Int32) from (Or.inl (Or.inr (Or.inr (Or.inr (Or.inr (Or.inr (Or.inr (Or.inr (Or.inr (Or.inl ⟨c2, rfl⟩)))))))))))⟩) d_Exp_rank_174
    · simp only [List.mem_cons, List.not_mem_nil, or_false] at c2
      refine lv_iconst (v := 2) S.x S.b d_Exp_rank_158 (by decide) ?_
      exact px_iret (v := 2) S hr rfl hlk hAe hw (Nat.le_of_ble_eq_true rfl) (Nat.le_of_ble_eq_true rfl) (⟨rfl, (show 0 ≤ (2 : Int) from by first | exact oz_42ded8c576 | omega), (show (2 : Int) ≤ 10 from by first | exact oz_5e333f7fca | omega), (show R_Exp_rank p0 (2 : Int32) from (Or.inl (Or.inr (Or.inr (Or.inr (Or.inr (Or.inr (Or.inr (Or.inr (Or.inr (Or.inr (Or.inl ⟨c2, rfl⟩))))))))))))⟩) d_Exp_rank_159
    · simp only [List.mem_cons, List.not_mem_nil, or_false] at c2
      refine lv_iconst (v := 1) S.x S.b d_Exp_rank_156 (by decide) ?_
      exact px_iret (v := 1) S hr rfl hlk hAe hw (Nat.le_of_ble_eq_true rfl) (Nat.le_of_ble_eq_true rfl) (⟨rfl, (show 0 ≤ (1 : Int) from by first | exact oz_19c3a41681 | omega), (show (1 : Int) ≤ 10 from by first | exact oz_7f2d4b7cbd | omega), (show R_Exp_rank p0 (1 : Int32) from (Or.inl (Or.inr (Or.inr (Or.inr (Or.inr (Or.inr (Or.inr (Or.inr (Or.inr (Or.inr (Or.inr ⟨c2, rfl⟩))))))))))))⟩) d_Exp_rank_157
abbrev b_Exp_isPrefix : ByteArray := prog_3_method_3_code
def y_Exp_isPrefix : MethodName := ⟨"HomeSystem$Expressions", "isPrefix", "(I)Z"⟩
theorem d_Exp_isPrefix_0 : decode b_Exp_isPrefix 0 = .ok (.iload_n 0, 1) := by decide +kernel
theorem d_Exp_isPrefix_1 : decode b_Exp_isPrefix 1 = .ok (.bipush 45, 2) := by decide +kernel
theorem d_Exp_isPrefix_3 : decode b_Exp_isPrefix 3 = .ok (.if_icmp .eq 35, 3) := by decide +kernel
theorem d_Exp_isPrefix_6 : decode b_Exp_isPrefix 6 = .ok (.iload_n 0, 1) := by decide +kernel
theorem d_Exp_isPrefix_7 : decode b_Exp_isPrefix 7 = .ok (.bipush 43, 2) := by decide +kernel
theorem d_Exp_isPrefix_9 : decode b_Exp_isPrefix 9 = .ok (.if_icmp .eq 29, 3) := by decide +kernel
theorem d_Exp_isPrefix_12 : decode b_Exp_isPrefix 12 = .ok (.iload_n 0, 1) := by decide +kernel
theorem d_Exp_isPrefix_13 : decode b_Exp_isPrefix 13 = .ok (.bipush 33, 2) := by decide +kernel
theorem d_Exp_isPrefix_15 : decode b_Exp_isPrefix 15 = .ok (.if_icmp .eq 23, 3) := by decide +kernel
theorem d_Exp_isPrefix_18 : decode b_Exp_isPrefix 18 = .ok (.iload_n 0, 1) := by decide +kernel
theorem d_Exp_isPrefix_19 : decode b_Exp_isPrefix 19 = .ok (.bipush 126, 2) := by decide +kernel
theorem d_Exp_isPrefix_21 : decode b_Exp_isPrefix 21 = .ok (.if_icmp .eq 17, 3) := by decide +kernel
theorem d_Exp_isPrefix_24 : decode b_Exp_isPrefix 24 = .ok (.iload_n 0, 1) := by decide +kernel
theorem d_Exp_isPrefix_25 : decode b_Exp_isPrefix 25 = .ok (.sipush 138, 3) := by decide +kernel
theorem d_Exp_isPrefix_28 : decode b_Exp_isPrefix 28 = .ok (.if_icmp .eq 10, 3) := by decide +kernel
theorem d_Exp_isPrefix_31 : decode b_Exp_isPrefix 31 = .ok (.iload_n 0, 1) := by decide +kernel
theorem d_Exp_isPrefix_32 : decode b_Exp_isPrefix 32 = .ok (.sipush 139, 3) := by decide +kernel
theorem d_Exp_isPrefix_35 : decode b_Exp_isPrefix 35 = .ok (.if_icmp .ne 7, 3) := by decide +kernel
theorem d_Exp_isPrefix_38 : decode b_Exp_isPrefix 38 = .ok (.iconst 1, 1) := by decide +kernel
theorem d_Exp_isPrefix_39 : decode b_Exp_isPrefix 39 = .ok (.goto 4, 3) := by decide +kernel
theorem d_Exp_isPrefix_42 : decode b_Exp_isPrefix 42 = .ok (.iconst 0, 1) := by decide +kernel
theorem d_Exp_isPrefix_43 : decode b_Exp_isPrefix 43 = .ok (.ireturn, 1) := by decide +kernel
theorem q_Exp_isPrefix : px_y y_Exp_isPrefix 1 := by unfold px_y; decide +kernel
set_option maxHeartbeats 4000000 in
set_option maxRecDepth 100000 in
theorem c_Exp_isPrefix (l : Launch) (D : va_G) (cs : Nat → ClassId)  (p0 : Int32)   : MetI l y_Exp_isPrefix b_Exp_isPrefix 1 (.boolean) D cs 0 0 (0) (0) [.int p0] [] (fun _ => True) (fun v ps => (ps = []) ∧ (v = 0 ∨ v = 1) ∧ (R_Exp_isPrefix p0 v)) := by
  refine px_enter (by decide) (Nat.le_of_ble_eq_true rfl) ?_
  intro p e s m below meth c A ls hAe S hr hlk hnm hA hT hX hw hl
  have hl : lv_has ls 1 [(0, .int p0)] := hl
  have lp0 := Int32.le_toInt p0
  have up0 := Int32.toInt_lt p0
  have cst0 : (0 : Int32).toInt = 0 := rfl
  have cst1 : (1 : Int32).toInt = 1 := rfl
  have cst33 : (33 : Int32).toInt = 33 := rfl
  have cst43 : (43 : Int32).toInt = 43 := rfl
  have cst45 : (45 : Int32).toInt = 45 := rfl
  have cst126 : (126 : Int32).toInt = 126 := rfl
  have cst138 : (138 : Int32).toInt = 138 := rfl
  have cst139 : (139 : Int32).toInt = 139 := rfl
  refine lv_iload_n S.x S.b d_Exp_isPrefix_0 rfl (lv_at hl 0 rfl) ?_
  refine lv_bipush (v := 45) S.x S.b d_Exp_isPrefix_1 (by decide) ?_
  refine lv_icmp_eq (tgt := 38) S.x S.b d_Exp_isPrefix_3 (by decide) (fun c1 => ?_) (fun c1 => ?_)
  · have nc1 : p0.toInt = (45 : Int) := (i_eq (x := p0) (y := 45)).mp c1
    refine lv_iconst (v := 1) S.x S.b d_Exp_isPrefix_38 (by decide) ?_
    refine lv_goto (tgt := 43) S.x S.b d_Exp_isPrefix_39 (by decide) ?_
    exact px_iret (v := 1) S hr rfl hlk hAe hw (Nat.le_of_ble_eq_true rfl) (Nat.le_of_ble_eq_true rfl) (⟨rfl, (show (1 : Int32) = 0 ∨ (1 : Int32) = 1 from by first | exact Or.inl rfl | exact Or.inr rfl | exact z_or (by omega)), (show R_Exp_isPrefix p0 (1 : Int32) from (Or.inl (Or.inl ⟨nc1, rfl⟩)))⟩) d_Exp_isPrefix_43
  · have nc1 : ¬ p0.toInt = (45 : Int) := mt (i_eq (x := p0) (y := 45)).mpr c1
    refine lv_iload_n S.x S.b d_Exp_isPrefix_6 rfl (lv_at hl 0 rfl) ?_
    refine lv_bipush (v := 43) S.x S.b d_Exp_isPrefix_7 (by decide) ?_
    refine lv_icmp_eq (tgt := 38) S.x S.b d_Exp_isPrefix_9 (by decide) (fun c3 => ?_) (fun c3 => ?_)
    · have nc3 : p0.toInt = (43 : Int) := (i_eq (x := p0) (y := 43)).mp c3
      refine lv_iconst (v := 1) S.x S.b d_Exp_isPrefix_38 (by decide) ?_
      refine lv_goto (tgt := 43) S.x S.b d_Exp_isPrefix_39 (by decide) ?_
      exact px_iret (v := 1) S hr rfl hlk hAe hw (Nat.le_of_ble_eq_true rfl) (Nat.le_of_ble_eq_true rfl) (⟨rfl, (show (1 : Int32) = 0 ∨ (1 : Int32) = 1 from by first | exact Or.inl rfl | exact Or.inr rfl | exact z_or (by omega)), (show R_Exp_isPrefix p0 (1 : Int32) from (Or.inl (Or.inr ⟨nc1, Or.inl ⟨nc3, rfl⟩⟩)))⟩) d_Exp_isPrefix_43
    · have nc3 : ¬ p0.toInt = (43 : Int) := mt (i_eq (x := p0) (y := 43)).mpr c3
      refine lv_iload_n S.x S.b d_Exp_isPrefix_12 rfl (lv_at hl 0 rfl) ?_
      refine lv_bipush (v := 33) S.x S.b d_Exp_isPrefix_13 (by decide) ?_
      refine lv_icmp_eq (tgt := 38) S.x S.b d_Exp_isPrefix_15 (by decide) (fun c5 => ?_) (fun c5 => ?_)
      · have nc5 : p0.toInt = (33 : Int) := (i_eq (x := p0) (y := 33)).mp c5
        refine lv_iconst (v := 1) S.x S.b d_Exp_isPrefix_38 (by decide) ?_
        refine lv_goto (tgt := 43) S.x S.b d_Exp_isPrefix_39 (by decide) ?_
        exact px_iret (v := 1) S hr rfl hlk hAe hw (Nat.le_of_ble_eq_true rfl) (Nat.le_of_ble_eq_true rfl) (⟨rfl, (show (1 : Int32) = 0 ∨ (1 : Int32) = 1 from by first | exact Or.inl rfl | exact Or.inr rfl | exact z_or (by omega)), (show R_Exp_isPrefix p0 (1 : Int32) from (Or.inl (Or.inr ⟨nc1, Or.inr ⟨nc3, Or.inl ⟨nc5, rfl⟩⟩⟩)))⟩) d_Exp_isPrefix_43
      · have nc5 : ¬ p0.toInt = (33 : Int) := mt (i_eq (x := p0) (y := 33)).mpr c5
        refine lv_iload_n S.x S.b d_Exp_isPrefix_18 rfl (lv_at hl 0 rfl) ?_
        refine lv_bipush (v := 126) S.x S.b d_Exp_isPrefix_19 (by decide) ?_
        refine lv_icmp_eq (tgt := 38) S.x S.b d_Exp_isPrefix_21 (by decide) (fun c7 => ?_) (fun c7 => ?_)
        · have nc7 : p0.toInt = (126 : Int) := (i_eq (x := p0) (y := 126)).mp c7
          refine lv_iconst (v := 1) S.x S.b d_Exp_isPrefix_38 (by decide) ?_
          refine lv_goto (tgt := 43) S.x S.b d_Exp_isPrefix_39 (by decide) ?_
          exact px_iret (v := 1) S hr rfl hlk hAe hw (Nat.le_of_ble_eq_true rfl) (Nat.le_of_ble_eq_true rfl) (⟨rfl, (show (1 : Int32) = 0 ∨ (1 : Int32) = 1 from by first | exact Or.inl rfl | exact Or.inr rfl | exact z_or (by omega)), (show R_Exp_isPrefix p0 (1 : Int32) from (Or.inl (Or.inr ⟨nc1, Or.inr ⟨nc3, Or.inr ⟨nc5, Or.inl ⟨nc7, rfl⟩⟩⟩⟩)))⟩) d_Exp_isPrefix_43
        · have nc7 : ¬ p0.toInt = (126 : Int) := mt (i_eq (x := p0) (y := 126)).mpr c7
          refine lv_iload_n S.x S.b d_Exp_isPrefix_24 rfl (lv_at hl 0 rfl) ?_
          refine lv_sipush (v := 138) S.x S.b d_Exp_isPrefix_25 (by decide) ?_
          refine lv_icmp_eq (tgt := 38) S.x S.b d_Exp_isPrefix_28 (by decide) (fun c9 => ?_) (fun c9 => ?_)
          · have nc9 : p0.toInt = (138 : Int) := (i_eq (x := p0) (y := 138)).mp c9
            refine lv_iconst (v := 1) S.x S.b d_Exp_isPrefix_38 (by decide) ?_
            refine lv_goto (tgt := 43) S.x S.b d_Exp_isPrefix_39 (by decide) ?_
            exact px_iret (v := 1) S hr rfl hlk hAe hw (Nat.le_of_ble_eq_true rfl) (Nat.le_of_ble_eq_true rfl) (⟨rfl, (show (1 : Int32) = 0 ∨ (1 : Int32) = 1 from by first | exact Or.inl rfl | exact Or.inr rfl | exact z_or (by omega)), (show R_Exp_isPrefix p0 (1 : Int32) from (Or.inl (Or.inr ⟨nc1, Or.inr ⟨nc3, Or.inr ⟨nc5, Or.inr ⟨nc7, Or.inl ⟨nc9, rfl⟩⟩⟩⟩⟩)))⟩) d_Exp_isPrefix_43
          · have nc9 : ¬ p0.toInt = (138 : Int) := mt (i_eq (x := p0) (y := 138)).mpr c9
            refine lv_iload_n S.x S.b d_Exp_isPrefix_31 rfl (lv_at hl 0 rfl) ?_
            refine lv_sipush (v := 139) S.x S.b d_Exp_isPrefix_32 (by decide) ?_
            refine lv_icmp_ne (tgt := 42) S.x S.b d_Exp_isPrefix_35 (by decide) (fun c11 => ?_) (fun c11 => ?_)
            · have nc11 : ¬ p0.toInt = (139 : Int) := mt (i_eq (x := p0) (y := 139)).mpr c11
              refine lv_iconst (v := 0) S.x S.b d_Exp_isPrefix_42 (by decide) ?_
              exact px_iret (v := 0) S hr rfl hlk hAe hw (Nat.le_of_ble_eq_true rfl) (Nat.le_of_ble_eq_true rfl) (⟨rfl, (show (0 : Int32) = 0 ∨ (0 : Int32) = 1 from by first | exact Or.inl rfl | exact Or.inr rfl | exact z_or (by omega)), (show R_Exp_isPrefix p0 (0 : Int32) from (Or.inl (Or.inr ⟨nc1, Or.inr ⟨nc3, Or.inr ⟨nc5, Or.inr ⟨nc7, Or.inr ⟨nc9, Or.inl ⟨nc11, rfl⟩⟩⟩⟩⟩⟩)))⟩) d_Exp_isPrefix_43
            · have nc11 : p0.toInt = (139 : Int) := (i_eq (x := p0) (y := 139)).mp c11
              refine lv_iconst (v := 1) S.x S.b d_Exp_isPrefix_38 (by decide) ?_
              refine lv_goto (tgt := 43) S.x S.b d_Exp_isPrefix_39 (by decide) ?_
              exact px_iret (v := 1) S hr rfl hlk hAe hw (Nat.le_of_ble_eq_true rfl) (Nat.le_of_ble_eq_true rfl) (⟨rfl, (show (1 : Int32) = 0 ∨ (1 : Int32) = 1 from by first | exact Or.inl rfl | exact Or.inr rfl | exact z_or (by omega)), (show R_Exp_isPrefix p0 (1 : Int32) from (Or.inl (Or.inr ⟨nc1, Or.inr ⟨nc3, Or.inr ⟨nc5, Or.inr ⟨nc7, Or.inr ⟨nc9, Or.inr ⟨nc11, rfl⟩⟩⟩⟩⟩⟩)))⟩) d_Exp_isPrefix_43
abbrev b_Prg_emit : ByteArray := prog_7_method_2_code
def y_Prg_emit : MethodName := ⟨"HomeSystem$Program", "emit", "(IIII)I"⟩
theorem d_Prg_emit_0 : decode b_Prg_emit 0 = .ok (.aload_n 0, 1) := by decide +kernel
theorem d_Prg_emit_1 : decode b_Prg_emit 1 = .ok (.getfield 22, 3) := by decide +kernel
theorem d_Prg_emit_4 : decode b_Prg_emit 4 = .ok (.istore 5, 2) := by decide +kernel
theorem d_Prg_emit_6 : decode b_Prg_emit 6 = .ok (.iload 5, 2) := by decide +kernel
theorem d_Prg_emit_8 : decode b_Prg_emit 8 = .ok (.ifCond .lt 62, 3) := by decide +kernel
theorem d_Prg_emit_11 : decode b_Prg_emit 11 = .ok (.iload 5, 2) := by decide +kernel
theorem d_Prg_emit_13 : decode b_Prg_emit 13 = .ok (.iconst 4, 1) := by decide +kernel
theorem d_Prg_emit_14 : decode b_Prg_emit 14 = .ok (.iadd, 1) := by decide +kernel
theorem d_Prg_emit_15 : decode b_Prg_emit 15 = .ok (.aload_n 0, 1) := by decide +kernel
theorem d_Prg_emit_16 : decode b_Prg_emit 16 = .ok (.getfield 9, 3) := by decide +kernel
theorem d_Prg_emit_19 : decode b_Prg_emit 19 = .ok (.arraylength, 1) := by decide +kernel
theorem d_Prg_emit_20 : decode b_Prg_emit 20 = .ok (.if_icmp .gt 50, 3) := by decide +kernel
theorem d_Prg_emit_23 : decode b_Prg_emit 23 = .ok (.aload_n 0, 1) := by decide +kernel
theorem d_Prg_emit_24 : decode b_Prg_emit 24 = .ok (.getfield 9, 3) := by decide +kernel
theorem d_Prg_emit_27 : decode b_Prg_emit 27 = .ok (.iload 5, 2) := by decide +kernel
theorem d_Prg_emit_29 : decode b_Prg_emit 29 = .ok (.iload_n 1, 1) := by decide +kernel
theorem d_Prg_emit_30 : decode b_Prg_emit 30 = .ok (.iastore, 1) := by decide +kernel
theorem d_Prg_emit_31 : decode b_Prg_emit 31 = .ok (.aload_n 0, 1) := by decide +kernel
theorem d_Prg_emit_32 : decode b_Prg_emit 32 = .ok (.getfield 9, 3) := by decide +kernel
theorem d_Prg_emit_35 : decode b_Prg_emit 35 = .ok (.iload 5, 2) := by decide +kernel
theorem d_Prg_emit_37 : decode b_Prg_emit 37 = .ok (.iconst 1, 1) := by decide +kernel
theorem d_Prg_emit_38 : decode b_Prg_emit 38 = .ok (.iadd, 1) := by decide +kernel
theorem d_Prg_emit_39 : decode b_Prg_emit 39 = .ok (.iload_n 2, 1) := by decide +kernel
theorem d_Prg_emit_40 : decode b_Prg_emit 40 = .ok (.iastore, 1) := by decide +kernel
theorem d_Prg_emit_41 : decode b_Prg_emit 41 = .ok (.aload_n 0, 1) := by decide +kernel
theorem d_Prg_emit_42 : decode b_Prg_emit 42 = .ok (.getfield 9, 3) := by decide +kernel
theorem d_Prg_emit_45 : decode b_Prg_emit 45 = .ok (.iload 5, 2) := by decide +kernel
theorem d_Prg_emit_47 : decode b_Prg_emit 47 = .ok (.iconst 2, 1) := by decide +kernel
theorem d_Prg_emit_48 : decode b_Prg_emit 48 = .ok (.iadd, 1) := by decide +kernel
theorem d_Prg_emit_49 : decode b_Prg_emit 49 = .ok (.iload_n 3, 1) := by decide +kernel
theorem d_Prg_emit_50 : decode b_Prg_emit 50 = .ok (.iastore, 1) := by decide +kernel
theorem d_Prg_emit_51 : decode b_Prg_emit 51 = .ok (.aload_n 0, 1) := by decide +kernel
theorem d_Prg_emit_52 : decode b_Prg_emit 52 = .ok (.getfield 9, 3) := by decide +kernel
theorem d_Prg_emit_55 : decode b_Prg_emit 55 = .ok (.iload 5, 2) := by decide +kernel
theorem d_Prg_emit_57 : decode b_Prg_emit 57 = .ok (.iconst 3, 1) := by decide +kernel
theorem d_Prg_emit_58 : decode b_Prg_emit 58 = .ok (.iadd, 1) := by decide +kernel
theorem d_Prg_emit_59 : decode b_Prg_emit 59 = .ok (.iload 4, 2) := by decide +kernel
theorem d_Prg_emit_61 : decode b_Prg_emit 61 = .ok (.iastore, 1) := by decide +kernel
theorem d_Prg_emit_62 : decode b_Prg_emit 62 = .ok (.aload_n 0, 1) := by decide +kernel
theorem d_Prg_emit_63 : decode b_Prg_emit 63 = .ok (.iload 5, 2) := by decide +kernel
theorem d_Prg_emit_65 : decode b_Prg_emit 65 = .ok (.iconst 4, 1) := by decide +kernel
theorem d_Prg_emit_66 : decode b_Prg_emit 66 = .ok (.iadd, 1) := by decide +kernel
theorem d_Prg_emit_67 : decode b_Prg_emit 67 = .ok (.putfield 22, 3) := by decide +kernel
theorem d_Prg_emit_70 : decode b_Prg_emit 70 = .ok (.iload 5, 2) := by decide +kernel
theorem d_Prg_emit_72 : decode b_Prg_emit 72 = .ok (.ireturn, 1) := by decide +kernel
theorem q_Prg_emit : px_y y_Prg_emit 4 := by unfold px_y; decide +kernel
set_option maxHeartbeats 4000000 in
set_option maxRecDepth 100000 in
theorem c_Prg_emit (l : Launch) (D : va_G) (cs : Nat → ClassId) (hp : Nat) (rp : Nat → Nat) (of : Option Nat) (cn : Nat) (fp : Nat → Int32) (cd : Nat → Int32) (p0 p1 p2 p3 : Int32)  (g0 : 0 ≤ (fp 3).toInt) (g1 : (fp 3).toInt ≤ (cn : Int)) (g2 : cn ≤ 100000) : MetI l y_Prg_emit b_Prg_emit 6 (.int) D cs 0 0 (0) (0) [.ref hp, .int p0, .int p1, .int p2, .int p3] [wd_Prg cs hp rp (fun k => if k = 2 then of else none) fp (fun _ _ => 0) (fun _ _ => none), [((rp 1), .inl (cs 0, cn, .inl cd))]] (fun _ => True) (fun v ps => ∃ (fp' cd' : Nat → Int32), ps = [wd_Prg cs hp rp (fun k => if k = 2 then of else none) fp' (fun _ _ => 0) (fun _ _ => none), [((rp 1), .inl (cs 0, cn, .inl cd'))]] ∧ v = fp 3 ∧ (((fp' 3).toInt = (fp 3).toInt + 4 ∧ (fp 3).toInt + 4 ≤ (cn : Int) ∧ cd' = em4 cd (fp 3) p0 p1 p2 p3) ∨ (fp' 3 = fp 3 ∧ cd' = cd ∧ (cn : Int) < (fp 3).toInt + 4)) ∧ fp' 0 = fp 0 ∧ fp' 4 = fp 4 ∧ fp' 5 = fp 5 ∧ R_Prg_emit cn p0 p1 p2 p3 fp cd fp' cd' v) := by
  refine px_enter (by decide) (Nat.le_of_ble_eq_true rfl) ?_
  intro p e s m below meth c A ls hAe S hr hlk hnm hA hT hX hw hl
  have hl : lv_has ls 6 [(0, .ref hp), (1, .int p0), (2, .int p1), (3, .int p2), (4, .int p3)] := hl
  have lp0 := Int32.le_toInt p0
  have up0 := Int32.toInt_lt p0
  have lp1 := Int32.le_toInt p1
  have up1 := Int32.toInt_lt p1
  have lp2 := Int32.le_toInt p2
  have up2 := Int32.toInt_lt p2
  have lp3 := Int32.le_toInt p3
  have up3 := Int32.toInt_lt p3
  have cst1 : (1 : Int32).toInt = 1 := rfl
  have cst2 : (2 : Int32).toInt = 2 := rfl
  have cst3 : (3 : Int32).toInt = 3 := rfl
  have cst4 : (4 : Int32).toInt = 4 := rfl
  have hcn : (nI cn).toInt = (cn : Int) := nI_toInt (by omega)
  refine lv_aload_n S.x S.b d_Prg_emit_0 rfl (lv_at hl 0 rfl) ?_
  refine px_get S k_Prg hT hw 0 0 3 (v := .int (fp 3)) rfl rfl rfl (by decide) m2_105 d_Prg_emit_1 ?_
  refine lv_istore (lv' := [(5, .int (fp 3)), (0, .ref hp), (1, .int p0), (2, .int p1), (3, .int p2), (4, .int p3)]) S.x S.b d_Prg_emit_4 hl (by decide) rfl (fun ls hl => ?_)
  refine lv_iload S.x S.b d_Prg_emit_6 (lv_at hl 0 rfl) ?_
  refine lv_if_lt (tgt := 70) S.x S.b d_Prg_emit_8 (by decide) (fun c1 => ?_) (fun c1 => ?_)
  · have nc1 : (fp 3).toInt < (0 : Int) := (i_lt (x := (fp 3)) (y := 0)).mp c1
    refine lv_iload S.x S.b d_Prg_emit_70 (lv_at hl 0 rfl) ?_
    exact px_iret (v := (fp 3)) S hr rfl hlk hAe hw (Nat.le_of_ble_eq_true rfl) (Nat.le_of_ble_eq_true rfl) (⟨fp, cd, rfl, rfl, Or.inr ⟨rfl, rfl, by omega⟩, (show (fp 0) = (fp 0) from rfl), (show (fp 4) = (fp 4) from rfl), (show (fp 5) = (fp 5) from rfl), (Or.inl (Or.inl ⟨nc1, rfl, rfl, rfl⟩))⟩) d_Prg_emit_72
  · have nc1 : ¬ (fp 3).toInt < (0 : Int) := mt (i_lt (x := (fp 3)) (y := 0)).mpr c1
    refine lv_iload S.x S.b d_Prg_emit_11 (lv_at hl 0 rfl) ?_
    refine lv_iconst (v := 4) S.x S.b d_Prg_emit_13 (by decide) ?_
    refine lv_iadd S.x S.b d_Prg_emit_14 ?_
    have lr3 := Int32.le_toInt (fp 3)
    have ur3 := Int32.toInt_lt (fp 3)
    refine lv_topi (fun z4 ez4 => ?_)
    have tz4 : z4.toInt = ((fp 3).toInt + (4 : Int) + 2147483648) % 4294967296 - 2147483648 := by rw [ez4]; exact i_add (fp 3) 4
    have lz4 := Int32.le_toInt z4
    have uz4 := Int32.toInt_lt z4
    try replace tz4 : z4.toInt = (fp 3).toInt + (4 : Int) := by omega
    refine lv_aload_n S.x S.b d_Prg_emit_15 rfl (lv_at hl 1 rfl) ?_
    refine px_get S k_Prg hT hw 0 0 1 (v := .ref (rp 1)) rfl rfl rfl (by decide) m2_99 d_Prg_emit_16 ?_
    refine px_len S hT hw 1 0 0 rfl rfl rfl (v := (nI cn)) rfl d_Prg_emit_19 ?_
    refine lv_icmp_gt (tgt := 70) S.x S.b d_Prg_emit_20 (by decide) (fun c5 => ?_) (fun c5 => ?_)
    · have nc5 : (nI cn).toInt < z4.toInt := (i_lt (x := (nI cn)) (y := z4)).mp c5
      refine lv_iload S.x S.b d_Prg_emit_70 (lv_at hl 0 rfl) ?_
      exact px_iret (v := (fp 3)) S hr rfl hlk hAe hw (Nat.le_of_ble_eq_true rfl) (Nat.le_of_ble_eq_true rfl) (⟨fp, cd, rfl, rfl, Or.inr ⟨rfl, rfl, by omega⟩, (show (fp 0) = (fp 0) from rfl), (show (fp 4) = (fp 4) from rfl), (show (fp 5) = (fp 5) from rfl), (Or.inl (Or.inr ⟨nc1, z4, ez4, Or.inl ⟨nc5, rfl, rfl, rfl⟩⟩))⟩) d_Prg_emit_72
    · have nc5 : ¬ (nI cn).toInt < z4.toInt := mt (i_lt (x := (nI cn)) (y := z4)).mpr c5
      refine lv_aload_n S.x S.b d_Prg_emit_23 rfl (lv_at hl 1 rfl) ?_
      refine px_get S k_Prg hT hw 0 0 1 (v := .ref (rp 1)) rfl rfl rfl (by decide) m2_99 d_Prg_emit_24 ?_
      refine lv_iload S.x S.b d_Prg_emit_27 (lv_at hl 0 rfl) ?_
      refine lv_iload_n S.x S.b d_Prg_emit_29 rfl (lv_at hl 2 rfl) ?_
      refine px_iast S hT hw 1 0 (n := cn) (f := cd) (x := (fp 3)) (y := p0) rfl rfl (vp_in_iff.mpr (by constructor <;> omega)) d_Prg_emit_30 (w' := [((rp 1), .inl (cs 0, cn, .inl (upd cd (fp 3).toNatClampNeg p0)))]) (ps' := [wd_Prg cs hp rp (fun k => if k = 2 then of else none) fp (fun _ _ => 0) (fun _ _ => none), [((rp 1), .inl (cs 0, cn, .inl (upd cd (fp 3).toNatClampNeg p0)))]]) rfl rfl (fun H locs hw => ?_)
      refine lv_aload_n S.x S.b d_Prg_emit_31 rfl (lv_at hl 1 rfl) ?_
      refine px_get S k_Prg hT hw 0 0 1 (v := .ref (rp 1)) rfl rfl rfl (by decide) m2_99 d_Prg_emit_32 ?_
      refine lv_iload S.x S.b d_Prg_emit_35 (lv_at hl 0 rfl) ?_
      refine lv_iconst (v := 1) S.x S.b d_Prg_emit_37 (by decide) ?_
      refine lv_iadd S.x S.b d_Prg_emit_38 ?_
      have lr7 := Int32.le_toInt (fp 3)
      have ur7 := Int32.toInt_lt (fp 3)
      refine lv_topi (fun z8 ez8 => ?_)
      have tz8 : z8.toInt = ((fp 3).toInt + (1 : Int) + 2147483648) % 4294967296 - 2147483648 := by rw [ez8]; exact i_add (fp 3) 1
      have lz8 := Int32.le_toInt z8
      have uz8 := Int32.toInt_lt z8
      try replace tz8 : z8.toInt = (fp 3).toInt + (1 : Int) := by omega
      refine lv_iload_n S.x S.b d_Prg_emit_39 rfl (lv_at hl 3 rfl) ?_
      refine px_iast S hT hw 1 0 (n := cn) (f := (upd cd (fp 3).toNatClampNeg p0)) (x := z8) (y := p1) rfl rfl (vp_in_iff.mpr (by constructor <;> omega)) d_Prg_emit_40 (w' := [((rp 1), .inl (cs 0, cn, .inl (upd (upd cd (fp 3).toNatClampNeg p0) z8.toNatClampNeg p1)))]) (ps' := [wd_Prg cs hp rp (fun k => if k = 2 then of else none) fp (fun _ _ => 0) (fun _ _ => none), [((rp 1), .inl (cs 0, cn, .inl (upd (upd cd (fp 3).toNatClampNeg p0) z8.toNatClampNeg p1)))]]) rfl rfl (fun H locs hw => ?_)
      refine lv_aload_n S.x S.b d_Prg_emit_41 rfl (lv_at hl 1 rfl) ?_
      refine px_get S k_Prg hT hw 0 0 1 (v := .ref (rp 1)) rfl rfl rfl (by decide) m2_99 d_Prg_emit_42 ?_
      refine lv_iload S.x S.b d_Prg_emit_45 (lv_at hl 0 rfl) ?_
      refine lv_iconst (v := 2) S.x S.b d_Prg_emit_47 (by decide) ?_
      refine lv_iadd S.x S.b d_Prg_emit_48 ?_
      have lr9 := Int32.le_toInt (fp 3)
      have ur9 := Int32.toInt_lt (fp 3)
      refine lv_topi (fun z10 ez10 => ?_)
      have tz10 : z10.toInt = ((fp 3).toInt + (2 : Int) + 2147483648) % 4294967296 - 2147483648 := by rw [ez10]; exact i_add (fp 3) 2
      have lz10 := Int32.le_toInt z10
      have uz10 := Int32.toInt_lt z10
      try replace tz10 : z10.toInt = (fp 3).toInt + (2 : Int) := by omega
      refine lv_iload_n S.x S.b d_Prg_emit_49 rfl (lv_at hl 4 rfl) ?_
      refine px_iast S hT hw 1 0 (n := cn) (f := (upd (upd cd (fp 3).toNatClampNeg p0) z8.toNatClampNeg p1)) (x := z10) (y := p2) rfl rfl (vp_in_iff.mpr (by constructor <;> omega)) d_Prg_emit_50 (w' := [((rp 1), .inl (cs 0, cn, .inl (upd (upd (upd cd (fp 3).toNatClampNeg p0) z8.toNatClampNeg p1) z10.toNatClampNeg p2)))]) (ps' := [wd_Prg cs hp rp (fun k => if k = 2 then of else none) fp (fun _ _ => 0) (fun _ _ => none), [((rp 1), .inl (cs 0, cn, .inl (upd (upd (upd cd (fp 3).toNatClampNeg p0) z8.toNatClampNeg p1) z10.toNatClampNeg p2)))]]) rfl rfl (fun H locs hw => ?_)
      refine lv_aload_n S.x S.b d_Prg_emit_51 rfl (lv_at hl 1 rfl) ?_
      refine px_get S k_Prg hT hw 0 0 1 (v := .ref (rp 1)) rfl rfl rfl (by decide) m2_99 d_Prg_emit_52 ?_
      refine lv_iload S.x S.b d_Prg_emit_55 (lv_at hl 0 rfl) ?_
      refine lv_iconst (v := 3) S.x S.b d_Prg_emit_57 (by decide) ?_
      refine lv_iadd S.x S.b d_Prg_emit_58 ?_
      have lr11 := Int32.le_toInt (fp 3)
      have ur11 := Int32.toInt_lt (fp 3)
      refine lv_topi (fun z12 ez12 => ?_)
      have tz12 : z12.toInt = ((fp 3).toInt + (3 : Int) + 2147483648) % 4294967296 - 2147483648 := by rw [ez12]; exact i_add (fp 3) 3
      have lz12 := Int32.le_toInt z12
      have uz12 := Int32.toInt_lt z12
      try replace tz12 : z12.toInt = (fp 3).toInt + (3 : Int) := by omega
      refine lv_iload S.x S.b d_Prg_emit_59 (lv_at hl 5 rfl) ?_
      refine px_iast S hT hw 1 0 (n := cn) (f := (upd (upd (upd cd (fp 3).toNatClampNeg p0) z8.toNatClampNeg p1) z10.toNatClampNeg p2)) (x := z12) (y := p3) rfl rfl (vp_in_iff.mpr (by constructor <;> omega)) d_Prg_emit_61 (w' := [((rp 1), .inl (cs 0, cn, .inl (upd (upd (upd (upd cd (fp 3).toNatClampNeg p0) z8.toNatClampNeg p1) z10.toNatClampNeg p2) z12.toNatClampNeg p3)))]) (ps' := [wd_Prg cs hp rp (fun k => if k = 2 then of else none) fp (fun _ _ => 0) (fun _ _ => none), [((rp 1), .inl (cs 0, cn, .inl (upd (upd (upd (upd cd (fp 3).toNatClampNeg p0) z8.toNatClampNeg p1) z10.toNatClampNeg p2) z12.toNatClampNeg p3)))]]) rfl rfl (fun H locs hw => ?_)
      refine lv_aload_n S.x S.b d_Prg_emit_62 rfl (lv_at hl 1 rfl) ?_
      refine lv_iload S.x S.b d_Prg_emit_63 (lv_at hl 0 rfl) ?_
      refine lv_iconst (v := 4) S.x S.b d_Prg_emit_65 (by decide) ?_
      refine lv_iadd S.x S.b d_Prg_emit_66 ?_
      have lr13 := Int32.le_toInt (fp 3)
      have ur13 := Int32.toInt_lt (fp 3)
      refine lv_topi (fun z14 ez14 => ?_)
      have tz14 : z14.toInt = ((fp 3).toInt + (4 : Int) + 2147483648) % 4294967296 - 2147483648 := by rw [ez14]; exact i_add (fp 3) 4
      have lz14 := Int32.le_toInt z14
      have uz14 := Int32.toInt_lt z14
      try replace tz14 : z14.toInt = (fp 3).toInt + (4 : Int) := by omega
      refine px_put S k_Prg hT hw 0 0 3 rfl rfl (by decide) m2_105 rfl rfl rfl (Nat.le_of_ble_eq_true rfl) d_Prg_emit_67 (w' := wd_Prg cs hp rp (fun k => if k = 2 then of else none) (upd fp 3 z14) (fun _ _ => 0) (fun _ _ => none)) (ps' := [wd_Prg cs hp rp (fun k => if k = 2 then of else none) (upd fp 3 z14) (fun _ _ => 0) (fun _ _ => none), [((rp 1), .inl (cs 0, cn, .inl (upd (upd (upd (upd cd (fp 3).toNatClampNeg p0) z8.toNatClampNeg p1) z10.toNatClampNeg p2) z12.toNatClampNeg p3)))]]) rfl rfl (fun H locs hw => ?_)
      refine lv_iload S.x S.b d_Prg_emit_70 (lv_at hl 0 rfl) ?_
      exact px_iret (v := (fp 3)) S hr rfl hlk hAe hw (Nat.le_of_ble_eq_true rfl) (Nat.le_of_ble_eq_true rfl) (⟨(upd fp 3 z14), (upd (upd (upd (upd cd (fp 3).toNatClampNeg p0) z8.toNatClampNeg p1) z10.toNatClampNeg p2) z12.toNatClampNeg p3), rfl, rfl, Or.inl ⟨(show z14.toInt = (fp 3).toInt + 4 from by first | exact oz_bb6abe9165 tz14 | omega), (show (fp 3).toInt + 4 ≤ (cn : Int) from by first | exact oz_5ee6447015 hcn tz4 nc5 | omega), by unfold em4; rw [ez8, ez10, ez12]⟩, (show (fp 0) = (fp 0) from rfl), (show (fp 4) = (fp 4) from rfl), (show (fp 5) = (fp 5) from rfl), (Or.inl (Or.inr ⟨nc1, z4, ez4, Or.inr ⟨nc5, z8, ez8, z10, ez10, z12, ez12, z14, ez14, rfl, rfl, rfl⟩⟩))⟩) d_Prg_emit_72
