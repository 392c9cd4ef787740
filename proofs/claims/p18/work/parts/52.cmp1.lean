theorem oz_de5f2c4db3  : (0 : Int) ≤ 200 := by omega
theorem oz_1e9cb405f3 {a0 a1 a2 : Int} (h0 : a0 ≤ a2 + 4) : a0 + a1 ≤ a2 + a1 + 4 := by omega
theorem oz_6e7f737875 {a0 a1 a2 : Int} (h0 : a1 ≤ a2 + 4) : a0 + a1 ≤ a0 + a2 + 4 := by omega
theorem m2_158 : Cond.fieldLink "HomeSystem$TextCompiler" 135 "HomeSystem$TextCompiler" "function" "LHomeSystem$Symbol;" ∈ AL := AL_2 (List.mem_of_getElem? (i := 158) rfl) rfl
theorem m2_161 : Cond.fieldLink "HomeSystem$TextCompiler" 75 "HomeSystem$TextCompiler" "locals" "I" ∈ AL := AL_2 (List.mem_of_getElem? (i := 161) rfl) rfl
theorem m2_160 : Cond.fieldLink "HomeSystem$TextCompiler" 125 "HomeSystem$TextCompiler" "globals" "I" ∈ AL := AL_2 (List.mem_of_getElem? (i := 160) rfl) rfl
theorem m1_214 : Cond.fieldLink "HomeSystem$TextCompiler" 256 "HomeSystem$Symbol" "mode" "I" ∈ AL := AL_1 (List.mem_of_getElem? (i := 214) rfl) rfl
theorem m1_217 : Cond.fieldLink "HomeSystem$TextCompiler" 259 "HomeSystem$Symbol" "base" "I" ∈ AL := AL_1 (List.mem_of_getElem? (i := 217) rfl) rfl
theorem m5_166 : Cond.methodLink "HomeSystem$TextCompiler" 176 ⟨"HomeSystem$Program", "emit", "(IIII)I"⟩ ∈ AL := AL_5 (List.mem_of_getElem? (i := 166) rfl) rfl
/-! THE COMPILER -/
def CmOk (P : va_W) (x7 x8 x10 : Int32) (ct : Nat → Int32) (fo : Option Nat) : Prop := (0 ≤ x7.toInt ∧ x7.toInt ≤ 2048) ∧ (0 ≤ x8.toInt ∧ x8.toInt ≤ 1) ∧ (0 ≤ x10.toInt ∧ x10.toInt ≤ 100000) ∧ (∀ j : Nat, (j : Int) < x7.toInt → Lk (ct j)) ∧ Fy P fo
theorem chp_eq {cn c : Nat} {col : Nat → Nat} {p q : Int32} (h : Chp cn col c p) (e : q.toInt = p.toInt) : Chp cn col c q := by
  rcases h with h | h | ⟨k, h1, h2⟩
  · exact Or.inl (by omega)
  · exact Or.inr (Or.inl (by omega))
  · exact Or.inr (Or.inr ⟨k, by omega, h2⟩)
theorem ct_add {c : Nat → Int32} {x w n n' : Int32} (h : ∀ j : Nat, (j : Int) < n.toInt → Lk (c j)) (h0 : 0 ≤ n.toInt) (hx : x.toInt = n.toInt) (hn : n'.toInt = n.toInt + 1) (hw : Lk w) : ∀ j : Nat, (j : Int) < n'.toInt → Lk (upd c x.toNatClampNeg w j) := fun j hj => by
  have hc := cl_nat (x := x) (by first | exact oz_f3ebed1ad0 hx h0 | omega)
  by_cases e : j = x.toNatClampNeg
  · rw [e, pk_us]; exact hw
  · rw [pk_un (by omega)]; exact h j (by omega)
def Q5 (c : Nat → Int32) : Prop := ∀ j : Nat, (c j).toInt ≤ 200
set_option maxHeartbeats 4000000 in
set_option maxRecDepth 100000 in
theorem c_tk_quoted2 (l : Launch) (D : va_G) (cs : Nat → ClassId) (ht : Nat) (rt : Nat → Nat) (ot : Nat → Option Nat) (ta : Nat → Nat → Int32) (tg : Nat → Nat → Option Nat) (tf : Nat → Int32) (p0 : Int32)  (hinv0 : CurOk (tf 10) (tf 13) (tf 14) (tf 15) (tf 17) (ta 0)) (hq5 : Q5 (ta 5)) : MetI l y_Tok_quotedNumber b_Tok_quotedNumber 2 (.int) D cs 0 0 (0) (0) [.ref ht, .int p0] [wd_Tok cs ht rt ot tf ta tg] (fun _ => True) (fun v ps => (ps = [wd_Tok cs ht rt ot tf ta tg]) ∧ (v.toInt ≤ 200) ∧ (R_tk_quoted2 ta p0 v)) := by
  refine px_enter (by decide) (Nat.le_of_ble_eq_true rfl) ?_
  intro p e s m below meth c A ls hAe S hr hlk hnm hA hT hX hw hl
  have hl : lv_has ls 2 [(0, .ref ht), (1, .int p0)] := hl
  have lp0 := Int32.le_toInt p0
  have up0 := Int32.toInt_lt p0
  have cst0 : (0 : Int32).toInt = 0 := rfl
  obtain ⟨⟨o1, o2⟩, ⟨o3, o4⟩, ⟨o5, o6⟩, o7, o8, hlast⟩ := hinv0
  refine lv_iload_n S.x S.b d_Tok_quotedNumber_0 rfl (lv_at hl 1 rfl) ?_
  refine lv_if_lt (tgt := 22) S.x S.b d_Tok_quotedNumber_1 (by decide) (fun c1 => ?_) (fun c1 => ?_)
  · have nc1 : p0.toInt < (0 : Int) := (i_lt (x := p0) (y := 0)).mp c1
    refine lv_iconst (v := 0) S.x S.b d_Tok_quotedNumber_22 (by decide) ?_
    exact px_iret (v := 0) S hr rfl hlk hAe hw (Nat.le_of_ble_eq_true rfl) (Nat.le_of_ble_eq_true rfl) (⟨rfl, (show (0 : Int) ≤ 200 from by first | exact oz_de5f2c4db3 | omega), (show R_tk_quoted2 ta p0 (0 : Int32) from (Or.inl (Or.inl ⟨nc1, rfl⟩)))⟩) d_Tok_quotedNumber_23
  · have nc1 : ¬ p0.toInt < (0 : Int) := mt (i_lt (x := p0) (y := 0)).mpr c1
    refine lv_iload_n S.x S.b d_Tok_quotedNumber_4 rfl (lv_at hl 1 rfl) ?_
    refine lv_aload_n S.x S.b d_Tok_quotedNumber_5 rfl (lv_at hl 0 rfl) ?_
    refine px_get S k_Tok hT hw 0 0 5 (v := .ref (rt 5)) rfl rfl rfl (by decide) m1_108 d_Tok_quotedNumber_6 ?_
    refine px_len S hT hw 0 6 0 rfl rfl rfl (v := 2048) rfl d_Tok_quotedNumber_9 ?_
    refine lv_icmp_ge (tgt := 22) S.x S.b d_Tok_quotedNumber_10 (by decide) (fun c3 => ?_) (fun c3 => ?_)
    · have nc3 : (2048 : Int) ≤ p0.toInt := (i_le (x := 2048) (y := p0)).mp c3
      refine lv_iconst (v := 0) S.x S.b d_Tok_quotedNumber_22 (by decide) ?_
      exact px_iret (v := 0) S hr rfl hlk hAe hw (Nat.le_of_ble_eq_true rfl) (Nat.le_of_ble_eq_true rfl) (⟨rfl, (show (0 : Int) ≤ 200 from by first | exact oz_de5f2c4db3 | omega), (show R_tk_quoted2 ta p0 (0 : Int32) from (Or.inl (Or.inr ⟨nc1, Or.inl ⟨nc3, rfl⟩⟩)))⟩) d_Tok_quotedNumber_23
    · have nc3 : ¬ (2048 : Int) ≤ p0.toInt := mt (i_le (x := 2048) (y := p0)).mpr c3
      refine lv_aload_n S.x S.b d_Tok_quotedNumber_13 rfl (lv_at hl 0 rfl) ?_
      refine px_get S k_Tok hT hw 0 0 5 (v := .ref (rt 5)) rfl rfl rfl (by decide) m1_108 d_Tok_quotedNumber_14 ?_
      refine lv_iload_n S.x S.b d_Tok_quotedNumber_17 rfl (lv_at hl 1 rfl) ?_
      refine px_iald S hT hw 0 6 (n := 2048) (f := (ta 5)) rfl (ga_Tok_5 _ _ _ _ _ _ _) (x := p0) (vp_in_iff.mpr (by first | exact oz_f4db95235a nc1 nc3 | (constructor <;> omega))) d_Tok_quotedNumber_18 ?_
      refine lv_topi (fun z5 ez5 => ?_)
      have lz5 := Int32.le_toInt z5
      have uz5 := Int32.toInt_lt z5
      have qz5 := hq5 p0.toNatClampNeg
      rw [← ez5] at qz5
      refine lv_goto (tgt := 23) S.x S.b d_Tok_quotedNumber_19 (by decide) ?_
      exact px_iret (v := z5) S hr rfl hlk hAe hw (Nat.le_of_ble_eq_true rfl) (Nat.le_of_ble_eq_true rfl) (⟨rfl, (show z5.toInt ≤ 200 from by omega), (show R_tk_quoted2 ta p0 z5 from (Or.inl (Or.inr ⟨nc1, Or.inr ⟨nc3, z5, ez5, rfl⟩⟩)))⟩) d_Tok_quotedNumber_23
abbrev b_Cmp_room : ByteArray := prog_10_method_20_code
def y_Cmp_room : MethodName := ⟨"HomeSystem$TextCompiler", "room", "(I)I"⟩
theorem d_Cmp_room_0 : decode b_Cmp_room 0 = .ok (.aload_n 0, 1) := by decide +kernel
theorem d_Cmp_room_1 : decode b_Cmp_room 1 = .ok (.getfield 135, 3) := by decide +kernel
theorem d_Cmp_room_4 : decode b_Cmp_room 4 = .ok (.ifnonnull 10, 3) := by decide +kernel
theorem d_Cmp_room_7 : decode b_Cmp_room 7 = .ok (.aload_n 0, 1) := by decide +kernel
theorem d_Cmp_room_8 : decode b_Cmp_room 8 = .ok (.getfield 125, 3) := by decide +kernel
theorem d_Cmp_room_11 : decode b_Cmp_room 11 = .ok (.goto 7, 3) := by decide +kernel
theorem d_Cmp_room_14 : decode b_Cmp_room 14 = .ok (.aload_n 0, 1) := by decide +kernel
theorem d_Cmp_room_15 : decode b_Cmp_room 15 = .ok (.getfield 75, 3) := by decide +kernel
theorem d_Cmp_room_18 : decode b_Cmp_room 18 = .ok (.istore_n 2, 1) := by decide +kernel
theorem d_Cmp_room_19 : decode b_Cmp_room 19 = .ok (.aload_n 0, 1) := by decide +kernel
theorem d_Cmp_room_20 : decode b_Cmp_room 20 = .ok (.getfield 135, 3) := by decide +kernel
theorem d_Cmp_room_23 : decode b_Cmp_room 23 = .ok (.ifnonnull 16, 3) := by decide +kernel
theorem d_Cmp_room_26 : decode b_Cmp_room 26 = .ok (.aload_n 0, 1) := by decide +kernel
theorem d_Cmp_room_27 : decode b_Cmp_room 27 = .ok (.dup, 1) := by decide +kernel
theorem d_Cmp_room_28 : decode b_Cmp_room 28 = .ok (.getfield 125, 3) := by decide +kernel
theorem d_Cmp_room_31 : decode b_Cmp_room 31 = .ok (.iload_n 1, 1) := by decide +kernel
theorem d_Cmp_room_32 : decode b_Cmp_room 32 = .ok (.iadd, 1) := by decide +kernel
theorem d_Cmp_room_33 : decode b_Cmp_room 33 = .ok (.putfield 125, 3) := by decide +kernel
theorem d_Cmp_room_36 : decode b_Cmp_room 36 = .ok (.goto 13, 3) := by decide +kernel
theorem d_Cmp_room_39 : decode b_Cmp_room 39 = .ok (.aload_n 0, 1) := by decide +kernel
theorem d_Cmp_room_40 : decode b_Cmp_room 40 = .ok (.dup, 1) := by decide +kernel
theorem d_Cmp_room_41 : decode b_Cmp_room 41 = .ok (.getfield 75, 3) := by decide +kernel
theorem d_Cmp_room_44 : decode b_Cmp_room 44 = .ok (.iload_n 1, 1) := by decide +kernel
theorem d_Cmp_room_45 : decode b_Cmp_room 45 = .ok (.iadd, 1) := by decide +kernel
theorem d_Cmp_room_46 : decode b_Cmp_room 46 = .ok (.putfield 75, 3) := by decide +kernel
theorem d_Cmp_room_49 : decode b_Cmp_room 49 = .ok (.iload_n 2, 1) := by decide +kernel
theorem d_Cmp_room_50 : decode b_Cmp_room 50 = .ok (.ireturn, 1) := by decide +kernel
theorem q_Cmp_room : px_y y_Cmp_room 1 := by unfold px_y; decide +kernel
set_option maxHeartbeats 4000000 in
set_option maxRecDepth 100000 in
theorem c_tc_room (l : Launch) (D : va_G) (cs : Nat → ClassId) (he : Nat) (re : Nat → Nat) (eo : Nat → Option Nat) (ef : Nat → Int32) (ea : Nat → Nat → Int32) (eg : Nat → Nat → Option Nat) (hc : Nat) (hs : Nat) (ra : Nat → Nat) (ca : Nat → Nat → Int32) (fo : Option Nat) (cf : Nat → Int32) (p0 : Int32)   : MetI l y_Cmp_room b_Cmp_room 3 (.int) D cs 0 0 (0) (0) [.ref hc, .int p0] [wd_Exp cs he re eo ef ea eg, wd_Cmp cs hc (fun k => if k = 0 then re 0 else if k = 1 then re 1 else if k = 2 then he else if k = 3 then re 2 else if k = 4 then hs else ra k) (fun k => if k = 9 then fo else none) cf ca (fun _ _ => none)] (fun _ => True) (fun v ps => ∃ (cf' : Nat → Int32), (ps = [wd_Exp cs he re eo ef ea eg, wd_Cmp cs hc (fun k => if k = 0 then re 0 else if k = 1 then re 1 else if k = 2 then he else if k = 3 then re 2 else if k = 4 then hs else ra k) (fun k => if k = 9 then fo else none) cf' ca (fun _ _ => none)]) ∧ ((cf' 7).toInt = (cf 7).toInt) ∧ ((cf' 8).toInt = (cf 8).toInt) ∧ ((cf' 10).toInt = (cf 10).toInt) ∧ ((cf' 16).toInt = (cf 16).toInt) ∧ ((cf' 17).toInt = (cf 17).toInt) ∧ (R_tc_room fo p0 cf cf' v)) := by
  refine px_enter (by decide) (Nat.le_of_ble_eq_true rfl) ?_
  intro p e s m below meth c A ls hAe S hr hlk hnm hA hT hX hw hl
  have hl : lv_has ls 3 [(0, .ref hc), (1, .int p0)] := hl
  have lp0 := Int32.le_toInt p0
  have up0 := Int32.toInt_lt p0
  refine lv_aload_n S.x S.b d_Cmp_room_0 rfl (lv_at hl 0 rfl) ?_
  refine px_get S k_Cmp hT hw 1 0 9 (v := va_rf fo) rfl rfl rfl (by decide) m2_158 d_Cmp_room_1 ?_
  refine lq_ifnonnull (x := fo) (tgt := 14) S.x S.b d_Cmp_room_4 (by decide) (fun q2 c1 => ?_) (fun c1 => ?_)
  ·
    subst c1
    refine lv_aload_n S.x S.b d_Cmp_room_14 rfl (lv_at hl 0 rfl) ?_
    refine px_get S k_Cmp hT hw 1 0 12 (v := .int (cf 12)) rfl rfl rfl (by decide) m2_161 d_Cmp_room_15 ?_
    refine lv_istore_n (lv' := [(2, .int (cf 12)), (0, .ref hc), (1, .int p0)]) S.x S.b d_Cmp_room_18 rfl hl (by decide) rfl (fun ls hl => ?_)
    refine lv_aload_n S.x S.b d_Cmp_room_19 rfl (lv_at hl 1 rfl) ?_
    refine px_get S k_Cmp hT hw 1 0 9 (v := .ref q2) rfl rfl rfl (by decide) m2_158 d_Cmp_room_20 ?_
    refine lv_ifnonnull (tgt := 39) S.x S.b d_Cmp_room_23 (by decide) ?_
    refine lv_aload_n S.x S.b d_Cmp_room_39 rfl (lv_at hl 1 rfl) ?_
    refine lv_dup S.x S.b d_Cmp_room_40 rfl ?_
    refine px_get S k_Cmp hT hw 1 0 12 (v := .int (cf 12)) rfl rfl rfl (by decide) m2_161 d_Cmp_room_41 ?_
    refine lv_iload_n S.x S.b d_Cmp_room_44 rfl (lv_at hl 2 rfl) ?_
    refine lv_iadd S.x S.b d_Cmp_room_45 ?_
    have lr4 := Int32.le_toInt (cf 12)
    have ur4 := Int32.toInt_lt (cf 12)
    refine lv_topi (fun z5 ez5 => ?_)
    have lz5 := Int32.le_toInt z5
    have uz5 := Int32.toInt_lt z5
    refine px_put S k_Cmp hT hw 1 0 12 rfl rfl (by decide) m2_161 rfl rfl rfl (Nat.le_of_ble_eq_true rfl) d_Cmp_room_46 (w' := wd_Cmp cs hc (fun k => if k = 0 then re 0 else if k = 1 then re 1 else if k = 2 then he else if k = 3 then re 2 else if k = 4 then hs else ra k) (fun k => if k = 9 then (some q2) else none) (upd cf 12 z5) ca (fun _ _ => none)) (ps' := [wd_Exp cs he re eo ef ea eg, wd_Cmp cs hc (fun k => if k = 0 then re 0 else if k = 1 then re 1 else if k = 2 then he else if k = 3 then re 2 else if k = 4 then hs else ra k) (fun k => if k = 9 then (some q2) else none) (upd cf 12 z5) ca (fun _ _ => none)]) rfl rfl (fun H locs hw => ?_)
    refine lv_iload_n S.x S.b d_Cmp_room_49 rfl (lv_at hl 0 rfl) ?_
    exact px_iret (v := (cf 12)) S hr rfl hlk hAe hw (Nat.le_of_ble_eq_true rfl) (Nat.le_of_ble_eq_true rfl) (⟨(upd cf 12 z5), rfl, (show (cf 7).toInt = (cf 7).toInt from rfl), (show (cf 8).toInt = (cf 8).toInt from rfl), (show (cf 10).toInt = (cf 10).toInt from rfl), (show (cf 16).toInt = (cf 16).toInt from rfl), (show (cf 17).toInt = (cf 17).toInt from rfl), (show R_tc_room (some q2) p0 cf (upd cf 12 z5) (cf 12) from (Or.inl (Or.inr ⟨q2, rfl, z5, ez5, rfl, rfl⟩)))⟩) d_Cmp_room_50
  ·
    subst c1
    refine lv_aload_n S.x S.b d_Cmp_room_7 rfl (lv_at hl 0 rfl) ?_
    refine px_get S k_Cmp hT hw 1 0 11 (v := .int (cf 11)) rfl rfl rfl (by decide) m2_160 d_Cmp_room_8 ?_
    refine lv_goto (tgt := 18) S.x S.b d_Cmp_room_11 (by decide) ?_
    refine lv_istore_n (lv' := [(2, .int (cf 11)), (0, .ref hc), (1, .int p0)]) S.x S.b d_Cmp_room_18 rfl hl (by decide) rfl (fun ls hl => ?_)
    refine lv_aload_n S.x S.b d_Cmp_room_19 rfl (lv_at hl 1 rfl) ?_
    refine px_get S k_Cmp hT hw 1 0 9 (v := .null) rfl rfl rfl (by decide) m2_158 d_Cmp_room_20 ?_
    refine lv_ifnonnullN S.x S.b d_Cmp_room_23 ?_
    refine lv_aload_n S.x S.b d_Cmp_room_26 rfl (lv_at hl 1 rfl) ?_
    refine lv_dup S.x S.b d_Cmp_room_27 rfl ?_
    refine px_get S k_Cmp hT hw 1 0 11 (v := .int (cf 11)) rfl rfl rfl (by decide) m2_160 d_Cmp_room_28 ?_
    refine lv_iload_n S.x S.b d_Cmp_room_31 rfl (lv_at hl 2 rfl) ?_
    refine lv_iadd S.x S.b d_Cmp_room_32 ?_
    have lr6 := Int32.le_toInt (cf 11)
    have ur6 := Int32.toInt_lt (cf 11)
    refine lv_topi (fun z7 ez7 => ?_)
    have lz7 := Int32.le_toInt z7
    have uz7 := Int32.toInt_lt z7
    refine px_put S k_Cmp hT hw 1 0 11 rfl rfl (by decide) m2_160 rfl rfl rfl (Nat.le_of_ble_eq_true rfl) d_Cmp_room_33 (w' := wd_Cmp cs hc (fun k => if k = 0 then re 0 else if k = 1 then re 1 else if k = 2 then he else if k = 3 then re 2 else if k = 4 then hs else ra k) (fun k => if k = 9 then none else none) (upd cf 11 z7) ca (fun _ _ => none)) (ps' := [wd_Exp cs he re eo ef ea eg, wd_Cmp cs hc (fun k => if k = 0 then re 0 else if k = 1 then re 1 else if k = 2 then he else if k = 3 then re 2 else if k = 4 then hs else ra k) (fun k => if k = 9 then none else none) (upd cf 11 z7) ca (fun _ _ => none)]) rfl rfl (fun H locs hw => ?_)
    refine lv_goto (tgt := 49) S.x S.b d_Cmp_room_36 (by decide) ?_
    refine lv_iload_n S.x S.b d_Cmp_room_49 rfl (lv_at hl 0 rfl) ?_
    exact px_iret (v := (cf 11)) S hr rfl hlk hAe hw (Nat.le_of_ble_eq_true rfl) (Nat.le_of_ble_eq_true rfl) (⟨(upd cf 11 z7), rfl, (show (cf 7).toInt = (cf 7).toInt from rfl), (show (cf 8).toInt = (cf 8).toInt from rfl), (show (cf 10).toInt = (cf 10).toInt from rfl), (show (cf 16).toInt = (cf 16).toInt from rfl), (show (cf 17).toInt = (cf 17).toInt from rfl), (show R_tc_room none p0 cf (upd cf 11 z7) (cf 11) from (Or.inl (Or.inl ⟨rfl, z7, ez7, rfl, rfl⟩)))⟩) d_Cmp_room_50
abbrev b_Cmp_element : ByteArray := prog_10_method_25_code
def y_Cmp_element : MethodName := ⟨"HomeSystem$TextCompiler", "element", "(LHomeSystem$Symbol;II)V"⟩
theorem d_Cmp_element_0 : decode b_Cmp_element 0 = .ok (.aload_n 0, 1) := by decide +kernel
theorem d_Cmp_element_1 : decode b_Cmp_element 1 = .ok (.getfield 135, 3) := by decide +kernel
theorem d_Cmp_element_4 : decode b_Cmp_element 4 = .ok (.ifnonnull 10, 3) := by decide +kernel
theorem d_Cmp_element_7 : decode b_Cmp_element 7 = .ok (.aload_n 0, 1) := by decide +kernel
theorem d_Cmp_element_8 : decode b_Cmp_element 8 = .ok (.getfield 39, 3) := by decide +kernel
theorem d_Cmp_element_11 : decode b_Cmp_element 11 = .ok (.goto 7, 3) := by decide +kernel
theorem d_Cmp_element_14 : decode b_Cmp_element 14 = .ok (.aload_n 0, 1) := by decide +kernel
theorem d_Cmp_element_15 : decode b_Cmp_element 15 = .ok (.getfield 26, 3) := by decide +kernel
theorem d_Cmp_element_18 : decode b_Cmp_element 18 = .ok (.astore 4, 2) := by decide +kernel
theorem d_Cmp_element_20 : decode b_Cmp_element 20 = .ok (.aload 4, 2) := by decide +kernel
theorem d_Cmp_element_22 : decode b_Cmp_element 22 = .ok (.bipush 14, 2) := by decide +kernel
theorem d_Cmp_element_24 : decode b_Cmp_element 24 = .ok (.iload_n 2, 1) := by decide +kernel
theorem d_Cmp_element_25 : decode b_Cmp_element 25 = .ok (.bipush 8, 2) := by decide +kernel
theorem d_Cmp_element_27 : decode b_Cmp_element 27 = .ok (.ishl, 1) := by decide +kernel
theorem d_Cmp_element_28 : decode b_Cmp_element 28 = .ok (.ior, 1) := by decide +kernel
theorem d_Cmp_element_29 : decode b_Cmp_element 29 = .ok (.aload_n 1, 1) := by decide +kernel
theorem d_Cmp_element_30 : decode b_Cmp_element 30 = .ok (.getfield 256, 3) := by decide +kernel
theorem d_Cmp_element_33 : decode b_Cmp_element 33 = .ok (.aload_n 1, 1) := by decide +kernel
theorem d_Cmp_element_34 : decode b_Cmp_element 34 = .ok (.getfield 259, 3) := by decide +kernel
theorem d_Cmp_element_37 : decode b_Cmp_element 37 = .ok (.iload_n 3, 1) := by decide +kernel
theorem d_Cmp_element_38 : decode b_Cmp_element 38 = .ok (.invokevirtual 176, 3) := by decide +kernel
theorem d_Cmp_element_41 : decode b_Cmp_element 41 = .ok (.pop, 1) := by decide +kernel
theorem d_Cmp_element_42 : decode b_Cmp_element 42 = .ok (.return_, 1) := by decide +kernel
theorem q_Cmp_element : px_y y_Cmp_element 3 := by unfold px_y; decide +kernel
set_option maxHeartbeats 4000000 in
set_option maxRecDepth 100000 in
theorem c_tc_element (l : Launch) (D : va_G) (cs : Nat → ClassId) (he : Nat) (re : Nat → Nat) (eo : Nat → Option Nat) (ef : Nat → Int32) (ea : Nat → Nat → Int32) (eg : Nat → Nat → Option Nat) (hc : Nat) (hs : Nat) (ra : Nat → Nat) (cf : Nat → Int32) (ca : Nat → Nat → Int32) (fo : Option Nat) (rp : Nat → Nat) (fu : Nat) (cn : Nat) (fn : Nat) (ft : Nat → Int32) (fp : Nat → Int32) (cd : Nat → Int32) (rs : Nat → Nat) (sn : Nat) (fs : Nat → Int32) (sd : Nat → Int32) (hy : Nat) (sf : Nat → Int32) (p0 p1 : Int32)  (g0 : cn % 4 = 0) (g1 : cn ≤ 100000) (g2 : sn % 4 = 0) (g3 : sn ≤ 100000) (hpk : Pok cn (fp 3) cd) (hpkS : Pok sn (fs 3) sd) : MetV l y_Cmp_element b_Cmp_element 5 D cs 1 40 (0) (0) [.ref hc, .ref hy, .int p0, .int p1] [wd_Exp cs he re eo ef ea eg, wd_Cmp cs hc (fun k => if k = 0 then re 0 else if k = 1 then re 1 else if k = 2 then he else if k = 3 then re 2 else if k = 4 then hs else ra k) (fun k => if k = 9 then fo else none) cf ca (fun _ _ => none), wd_Prg cs (re 2) rp (fun k => if k = 2 then (some fu) else none) fp (fun _ _ => 0) (fun _ _ => none), [((rp 1), .inl (cs 0, cn, .inl cd))], [(fu, .inl (cs 0, fn, .inl ft))], wd_Prg cs hs rs (fun k => if k = 2 then none else none) fs (fun _ _ => 0) (fun _ _ => none), [((rs 1), .inl (cs 0, sn, .inl sd))], wd_Sym cs hy (fun _ => 0) (fun _ => none) sf (fun _ _ => 0) (fun _ _ => none)] (fun _ => True) (fun ps => ∃ (fp' : Nat → Int32) (cd' : Nat → Int32) (fs' : Nat → Int32) (sd' : Nat → Int32), (ps = [wd_Exp cs he re eo ef ea eg, wd_Cmp cs hc (fun k => if k = 0 then re 0 else if k = 1 then re 1 else if k = 2 then he else if k = 3 then re 2 else if k = 4 then hs else ra k) (fun k => if k = 9 then fo else none) cf ca (fun _ _ => none), wd_Prg cs (re 2) rp (fun k => if k = 2 then (some fu) else none) fp' (fun _ _ => 0) (fun _ _ => none), [((rp 1), .inl (cs 0, cn, .inl cd'))], [(fu, .inl (cs 0, fn, .inl ft))], wd_Prg cs hs rs (fun k => if k = 2 then none else none) fs' (fun _ _ => 0) (fun _ _ => none), [((rs 1), .inl (cs 0, sn, .inl sd'))], wd_Sym cs hy (fun _ => 0) (fun _ => none) sf (fun _ _ => 0) (fun _ _ => none)]) ∧ (Prel cn (fp 3) cd (fp' 3) cd') ∧ (Pok sn (fs' 3) sd') ∧ ((fp' 3).toInt + (fs' 3).toInt ≤ (fp 3).toInt + (fs 3).toInt + 4) ∧ (R_tc_element fo cn sn sf p0 p1 fp cd fs sd fp' cd' fs' sd')) := by
  refine px_enter (by decide) (Nat.le_of_ble_eq_true rfl) ?_
  intro p e s m below meth c A ls hAe S hr hlk hnm hA hT hX hw hl
  have hl : lv_has ls 5 [(0, .ref hc), (1, .ref hy), (2, .int p0), (3, .int p1)] := hl
  have lp0 := Int32.le_toInt p0
  have up0 := Int32.toInt_lt p0
  have lp1 := Int32.le_toInt p1
  have up1 := Int32.toInt_lt p1
  have cst8 : (8 : Int32).toInt = 8 := rfl
  have cst14 : (14 : Int32).toInt = 14 := rfl
  have hrel := Prel.rf hpk
  have pz0 := hrel.nm
  have pzS0 := hpkS.1
  refine lv_aload_n S.x S.b d_Cmp_element_0 rfl (lv_at hl 0 rfl) ?_
  refine px_get S k_Cmp hT hw 1 0 9 (v := va_rf fo) rfl rfl rfl (by decide) m2_158 d_Cmp_element_1 ?_
  refine lq_ifnonnull (x := fo) (tgt := 14) S.x S.b d_Cmp_element_4 (by decide) (fun q2 c1 => ?_) (fun c1 => ?_)
  ·
    subst c1
    refine lv_aload_n S.x S.b d_Cmp_element_14 rfl (lv_at hl 0 rfl) ?_
    refine px_get S k_Cmp hT hw 1 0 3 (v := .ref (re 2)) rfl rfl rfl (by decide) m2_152 d_Cmp_element_15 ?_
    refine lv_astore (lv' := [(4, .ref (re 2)), (0, .ref hc), (1, .ref hy), (2, .int p0), (3, .int p1)]) S.x S.b d_Cmp_element_18 hl (by decide) rfl (fun ls hl => ?_)
    refine lv_aload S.x S.b d_Cmp_element_20 (lv_at hl 0 rfl) ?_
    refine lv_bipush (v := 14) S.x S.b d_Cmp_element_22 (by decide) ?_
    refine lv_iload_n S.x S.b d_Cmp_element_24 rfl (lv_at hl 3 rfl) ?_
    refine lv_bipush (v := 8) S.x S.b d_Cmp_element_25 (by decide) ?_
    refine lv_ishl S.x S.b d_Cmp_element_27 ?_
    refine lv_topi (fun z4 ez4 => ?_)
    have lz4 := Int32.le_toInt z4
    have uz4 := Int32.toInt_lt z4
    have tz4 : 0 ≤ p0.toInt → p0.toInt * 256 < 2147483648 → z4.toInt = p0.toInt * 256 := by rw [ez4]; exact i_shl p0 8 (k := 8) (d := 256) (by decide) (by decide)
    refine lv_ior S.x S.b d_Cmp_element_28 ?_
    refine lv_topi (fun z5 ez5 => ?_)
    have lz5 := Int32.le_toInt z5
    have uz5 := Int32.toInt_lt z5
    have hjp : ∀ q, Jop z5 q := fun q => jop_low (by rw [ez5, ez4, or_shl8 14 _ (by decide)]; decide)
    refine lv_aload_n S.x S.b d_Cmp_element_29 rfl (lv_at hl 2 rfl) ?_
    refine px_get S k_Sym hT hw 7 0 2 (v := .int (sf 2)) rfl rfl rfl (by decide) m1_214 d_Cmp_element_30 ?_
    refine lv_aload_n S.x S.b d_Cmp_element_33 rfl (lv_at hl 2 rfl) ?_
    refine px_get S k_Sym hT hw 7 0 3 (v := .int (sf 3)) rfl rfl rfl (by decide) m1_217 d_Cmp_element_34 ?_
    refine lv_iload_n S.x S.b d_Cmp_element_37 rfl (lv_at hl 4 rfl) ?_
    have hw : pw D A s.heap _ _ [wd_Exp cs he re eo ef ea eg, wd_Cmp cs hc (fun k => if k = 0 then re 0 else if k = 1 then re 1 else if k = 2 then he else if k = 3 then re 2 else if k = 4 then hs else ra k) (fun k => if k = 9 then (some q2) else none) cf ca (fun _ _ => none), [(fu, .inl (cs 0, fn, .inl ft))], wd_Prg cs hs rs (fun k => if k = 2 then none else none) fs (fun _ _ => 0) (fun _ _ => none), [((rs 1), .inl (cs 0, sn, .inl sd))], wd_Sym cs hy (fun _ => 0) (fun _ => none) sf (fun _ _ => 0) (fun _ _ => none), wd_Prg cs (re 2) rp (fun k => if k = 2 then (some fu) else none) fp (fun _ _ => 0) (fun _ _ => none), [((rp 1), .inl (cs 0, cn, .inl cd))]] := hw.sub [0, 1, 4, 5, 6, 7, 2, 3] rfl rfl
    refine px_calli (pr := [wd_Exp cs he re eo ef ea eg, wd_Cmp cs hc (fun k => if k = 0 then re 0 else if k = 1 then re 1 else if k = 2 then he else if k = 3 then re 2 else if k = 4 then hs else ra k) (fun k => if k = 9 then (some q2) else none) cf ca (fun _ _ => none), [(fu, .inl (cs 0, fn, .inl ft))], wd_Prg cs hs rs (fun k => if k = 2 then none else none) fs (fun _ _ => 0) (fun _ _ => none), [((rs 1), .inl (cs 0, sn, .inl sd))], wd_Sym cs hy (fun _ => 0) (fun _ => none) sf (fun _ _ => 0) (fun _ _ => none)]) (px_runV (As := [.int z5, .int (sf 2), .int (sf 3), .int p1]) (rest := []) S (c_pe_emit l D cs (re 2) rp (some fu) cn fp cd z5 (sf 2) (sf 3) p1  (show cn % 4 = 0 from by first | exact g0 | omega) (show cn ≤ 100000 from by first | exact g1 | omega) hrel.1 (hjp _) _) hT (pr := [wd_Exp cs he re eo ef ea eg, wd_Cmp cs hc (fun k => if k = 0 then re 0 else if k = 1 then re 1 else if k = 2 then he else if k = 3 then re 2 else if k = 4 then hs else ra k) (fun k => if k = 9 then (some q2) else none) cf ca (fun _ _ => none), [(fu, .inl (cs 0, fn, .inl ft))], wd_Prg cs hs rs (fun k => if k = 2 then none else none) fs (fun _ _ => 0) (fun _ _ => none), [((rs 1), .inl (cs 0, sn, .inl sd))], wd_Sym cs hy (fun _ => 0) (fun _ => none) sf (fun _ _ => 0) (fun _ _ => none)]) (pcs := [wd_Prg cs (re 2) rp (fun k => if k = 2 then (some fu) else none) fp (fun _ _ => 0) (fun _ _ => none), [((rp 1), .inl (cs 0, cn, .inl cd))]]) hw px_X.tt (px_recv hT hw 6 0 rfl rfl rfl) m4_181 m5_166 m4_179 m4_180 m1_16 q_Prg_emit ⟨Nat.le_of_ble_eq_true rfl, Nat.le_of_ble_eq_true rfl⟩ hl.1 rfl (Nat.le_of_ble_eq_true rfl) d_Cmp_element_38 ⟨Nat.le_of_ble_eq_true rfl, Nat.le_of_ble_eq_true rfl⟩) hw hA (fun v11 p10 H locs hp10 hw => ?_)
    obtain ⟨fp8, cd9, rfl, hv_v11, hem, hwx, hsz, k0fp8, k4fp8, k5fp8, hR_fp8⟩ := hp10
    have tv_v11 : v11.toInt = (fp 3).toInt := by rw [hv_v11]
    have pm12 := hem.2.1
    have hrel := hrel.tr hem
    have pz13 := hrel.nm
    have hsl_fp8 : (fp8 3).toInt ≤ (fp 3).toInt + 4 ∧ (fp 3).toInt ≤ (fp8 3).toInt := by omega
    clear hsz hwx
    have hw : pw D A s.heap H locs [wd_Exp cs he re eo ef ea eg, wd_Cmp cs hc (fun k => if k = 0 then re 0 else if k = 1 then re 1 else if k = 2 then he else if k = 3 then re 2 else if k = 4 then hs else ra k) (fun k => if k = 9 then (some q2) else none) cf ca (fun _ _ => none), [(fu, .inl (cs 0, fn, .inl ft))], wd_Prg cs hs rs (fun k => if k = 2 then none else none) fs (fun _ _ => 0) (fun _ _ => none), [((rs 1), .inl (cs 0, sn, .inl sd))], wd_Sym cs hy (fun _ => 0) (fun _ => none) sf (fun _ _ => 0) (fun _ _ => none), wd_Prg cs (re 2) rp (fun k => if k = 2 then (some fu) else none) fp8 (fun _ _ => 0) (fun _ _ => none), [((rp 1), .inl (cs 0, cn, .inl cd9))]] := hw
    have lv11 := Int32.le_toInt v11
    have uv11 := Int32.toInt_lt v11
    refine lv_pop S.x S.b d_Cmp_element_41 rfl ?_
    have hw : pw D A s.heap _ _ [wd_Exp cs he re eo ef ea eg, wd_Cmp cs hc (fun k => if k = 0 then re 0 else if k = 1 then re 1 else if k = 2 then he else if k = 3 then re 2 else if k = 4 then hs else ra k) (fun k => if k = 9 then (some q2) else none) cf ca (fun _ _ => none), wd_Prg cs (re 2) rp (fun k => if k = 2 then (some fu) else none) fp8 (fun _ _ => 0) (fun _ _ => none), [((rp 1), .inl (cs 0, cn, .inl cd9))], [(fu, .inl (cs 0, fn, .inl ft))], wd_Prg cs hs rs (fun k => if k = 2 then none else none) fs (fun _ _ => 0) (fun _ _ => none), [((rs 1), .inl (cs 0, sn, .inl sd))], wd_Sym cs hy (fun _ => 0) (fun _ => none) sf (fun _ _ => 0) (fun _ _ => none)] := hw.sub [0, 1, 6, 7, 2, 3, 4, 5] rfl rfl
    exact px_vret S hr hlk hAe hw (Nat.le_of_ble_eq_true rfl) (Nat.le_of_ble_eq_true rfl) (⟨fp8, cd9, fs, sd, rfl, (show Prel cn (fp 3) cd (fp8 3) cd9 from hrel), (show Pok sn (fs 3) sd from hpkS), (show (fp8 3).toInt + (fs 3).toInt ≤ (fp 3).toInt + (fs 3).toInt + 4 from by first | exact oz_1e9cb405f3 hsl_fp8.1 | omega), (show R_tc_element (some q2) cn sn sf p0 p1 fp cd fs sd fp8 cd9 fs sd from (Or.inl (Or.inr ⟨q2, rfl, z4, ez4, z5, ez5, fp8, cd9, v11, hR_fp8, rfl, rfl, rfl, rfl⟩)))⟩) d_Cmp_element_42
  ·
    subst c1
    refine lv_aload_n S.x S.b d_Cmp_element_7 rfl (lv_at hl 0 rfl) ?_
    refine px_get S k_Cmp hT hw 1 0 4 (v := .ref hs) rfl rfl rfl (by decide) m2_153 d_Cmp_element_8 ?_
    refine lv_goto (tgt := 18) S.x S.b d_Cmp_element_11 (by decide) ?_
    refine lv_astore (lv' := [(4, .ref hs), (0, .ref hc), (1, .ref hy), (2, .int p0), (3, .int p1)]) S.x S.b d_Cmp_element_18 hl (by decide) rfl (fun ls hl => ?_)
    refine lv_aload S.x S.b d_Cmp_element_20 (lv_at hl 0 rfl) ?_
    refine lv_bipush (v := 14) S.x S.b d_Cmp_element_22 (by decide) ?_
    refine lv_iload_n S.x S.b d_Cmp_element_24 rfl (lv_at hl 3 rfl) ?_
    refine lv_bipush (v := 8) S.x S.b d_Cmp_element_25 (by decide) ?_
    refine lv_ishl S.x S.b d_Cmp_element_27 ?_
    refine lv_topi (fun z14 ez14 => ?_)
    have lz14 := Int32.le_toInt z14
    have uz14 := Int32.toInt_lt z14
    have tz14 : 0 ≤ p0.toInt → p0.toInt * 256 < 2147483648 → z14.toInt = p0.toInt * 256 := by rw [ez14]; exact i_shl p0 8 (k := 8) (d := 256) (by decide) (by decide)
    refine lv_ior S.x S.b d_Cmp_element_28 ?_
    refine lv_topi (fun z15 ez15 => ?_)
    have lz15 := Int32.le_toInt z15
    have uz15 := Int32.toInt_lt z15
    have hjp : ∀ q, Jop z15 q := fun q => jop_low (by rw [ez15, ez14, or_shl8 14 _ (by decide)]; decide)
    refine lv_aload_n S.x S.b d_Cmp_element_29 rfl (lv_at hl 2 rfl) ?_
    refine px_get S k_Sym hT hw 7 0 2 (v := .int (sf 2)) rfl rfl rfl (by decide) m1_214 d_Cmp_element_30 ?_
    refine lv_aload_n S.x S.b d_Cmp_element_33 rfl (lv_at hl 2 rfl) ?_
    refine px_get S k_Sym hT hw 7 0 3 (v := .int (sf 3)) rfl rfl rfl (by decide) m1_217 d_Cmp_element_34 ?_
    refine lv_iload_n S.x S.b d_Cmp_element_37 rfl (lv_at hl 4 rfl) ?_
    have hw : pw D A s.heap _ _ [wd_Exp cs he re eo ef ea eg, wd_Cmp cs hc (fun k => if k = 0 then re 0 else if k = 1 then re 1 else if k = 2 then he else if k = 3 then re 2 else if k = 4 then hs else ra k) (fun k => if k = 9 then none else none) cf ca (fun _ _ => none), wd_Prg cs (re 2) rp (fun k => if k = 2 then (some fu) else none) fp (fun _ _ => 0) (fun _ _ => none), [((rp 1), .inl (cs 0, cn, .inl cd))], [(fu, .inl (cs 0, fn, .inl ft))], wd_Sym cs hy (fun _ => 0) (fun _ => none) sf (fun _ _ => 0) (fun _ _ => none), wd_Prg cs hs rs (fun k => if k = 2 then none else none) fs (fun _ _ => 0) (fun _ _ => none), [((rs 1), .inl (cs 0, sn, .inl sd))]] := hw.sub [0, 1, 2, 3, 4, 7, 5, 6] rfl rfl
    refine px_calli (pr := [wd_Exp cs he re eo ef ea eg, wd_Cmp cs hc (fun k => if k = 0 then re 0 else if k = 1 then re 1 else if k = 2 then he else if k = 3 then re 2 else if k = 4 then hs else ra k) (fun k => if k = 9 then none else none) cf ca (fun _ _ => none), wd_Prg cs (re 2) rp (fun k => if k = 2 then (some fu) else none) fp (fun _ _ => 0) (fun _ _ => none), [((rp 1), .inl (cs 0, cn, .inl cd))], [(fu, .inl (cs 0, fn, .inl ft))], wd_Sym cs hy (fun _ => 0) (fun _ => none) sf (fun _ _ => 0) (fun _ _ => none)]) (px_runV (As := [.int z15, .int (sf 2), .int (sf 3), .int p1]) (rest := []) S (c_pe_emit l D cs hs rs none sn fs sd z15 (sf 2) (sf 3) p1  (show sn % 4 = 0 from by first | exact g2 | omega) (show sn ≤ 100000 from by first | exact g3 | omega) hpkS (hjp _) _) hT (pr := [wd_Exp cs he re eo ef ea eg, wd_Cmp cs hc (fun k => if k = 0 then re 0 else if k = 1 then re 1 else if k = 2 then he else if k = 3 then re 2 else if k = 4 then hs else ra k) (fun k => if k = 9 then none else none) cf ca (fun _ _ => none), wd_Prg cs (re 2) rp (fun k => if k = 2 then (some fu) else none) fp (fun _ _ => 0) (fun _ _ => none), [((rp 1), .inl (cs 0, cn, .inl cd))], [(fu, .inl (cs 0, fn, .inl ft))], wd_Sym cs hy (fun _ => 0) (fun _ => none) sf (fun _ _ => 0) (fun _ _ => none)]) (pcs := [wd_Prg cs hs rs (fun k => if k = 2 then none else none) fs (fun _ _ => 0) (fun _ _ => none), [((rs 1), .inl (cs 0, sn, .inl sd))]]) hw px_X.tt (px_recv hT hw 6 0 rfl rfl rfl) m4_181 m5_166 m4_179 m4_180 m1_16 q_Prg_emit ⟨Nat.le_of_ble_eq_true rfl, Nat.le_of_ble_eq_true rfl⟩ hl.1 rfl (Nat.le_of_ble_eq_true rfl) d_Cmp_element_38 ⟨Nat.le_of_ble_eq_true rfl, Nat.le_of_ble_eq_true rfl⟩) hw hA (fun v21 p20 H locs hp20 hw => ?_)
    obtain ⟨fs18, sd19, rfl, hv_v21, hemS, -, hszS, -, -, -, hR_fs18⟩ := hp20
    have hpkS := hemS.1
    have pzS22 := hpkS.1
    have hsl_fs18 : (fs18 3).toInt ≤ (fs 3).toInt + 4 ∧ (fs 3).toInt ≤ (fs18 3).toInt := by omega
    clear hszS
    have hw : pw D A s.heap H locs [wd_Exp cs he re eo ef ea eg, wd_Cmp cs hc (fun k => if k = 0 then re 0 else if k = 1 then re 1 else if k = 2 then he else if k = 3 then re 2 else if k = 4 then hs else ra k) (fun k => if k = 9 then none else none) cf ca (fun _ _ => none), wd_Prg cs (re 2) rp (fun k => if k = 2 then (some fu) else none) fp (fun _ _ => 0) (fun _ _ => none), [((rp 1), .inl (cs 0, cn, .inl cd))], [(fu, .inl (cs 0, fn, .inl ft))], wd_Sym cs hy (fun _ => 0) (fun _ => none) sf (fun _ _ => 0) (fun _ _ => none), wd_Prg cs hs rs (fun k => if k = 2 then none else none) fs18 (fun _ _ => 0) (fun _ _ => none), [((rs 1), .inl (cs 0, sn, .inl sd19))]] := hw
    have lv21 := Int32.le_toInt v21
    have uv21 := Int32.toInt_lt v21
    refine lv_pop S.x S.b d_Cmp_element_41 rfl ?_
    have hw : pw D A s.heap _ _ [wd_Exp cs he re eo ef ea eg, wd_Cmp cs hc (fun k => if k = 0 then re 0 else if k = 1 then re 1 else if k = 2 then he else if k = 3 then re 2 else if k = 4 then hs else ra k) (fun k => if k = 9 then none else none) cf ca (fun _ _ => none), wd_Prg cs (re 2) rp (fun k => if k = 2 then (some fu) else none) fp (fun _ _ => 0) (fun _ _ => none), [((rp 1), .inl (cs 0, cn, .inl cd))], [(fu, .inl (cs 0, fn, .inl ft))], wd_Prg cs hs rs (fun k => if k = 2 then none else none) fs18 (fun _ _ => 0) (fun _ _ => none), [((rs 1), .inl (cs 0, sn, .inl sd19))], wd_Sym cs hy (fun _ => 0) (fun _ => none) sf (fun _ _ => 0) (fun _ _ => none)] := hw.sub [0, 1, 2, 3, 4, 6, 7, 5] rfl rfl
    exact px_vret S hr hlk hAe hw (Nat.le_of_ble_eq_true rfl) (Nat.le_of_ble_eq_true rfl) (⟨fp, cd, fs18, sd19, rfl, (show Prel cn (fp 3) cd (fp 3) cd from hrel), (show Pok sn (fs18 3) sd19 from hpkS), (show (fp 3).toInt + (fs18 3).toInt ≤ (fp 3).toInt + (fs 3).toInt + 4 from by first | exact oz_6e7f737875 hsl_fs18.1 | omega), (show R_tc_element none cn sn sf p0 p1 fp cd fs sd fp cd fs18 sd19 from (Or.inl (Or.inl ⟨rfl, z14, ez14, z15, ez15, fs18, sd19, v21, hR_fs18, rfl, rfl, rfl, rfl⟩)))⟩) d_Cmp_element_42
abbrev b_Exp_settle : ByteArray := prog_3_method_7_code
def y_Exp_settle : MethodName := ⟨"HomeSystem$Expressions", "settle", "(ILHomeSystem$Operand;)LHomeSystem$Operand;"⟩
theorem d_Exp_settle_0 : decode b_Exp_settle 0 = .ok (.aload_n 0, 1) := by decide +kernel
theorem d_Exp_settle_1 : decode b_Exp_settle 1 = .ok (.aload_n 2, 1) := by decide +kernel
theorem d_Exp_settle_2 : decode b_Exp_settle 2 = .ok (.invokevirtual 51, 3) := by decide +kernel
theorem d_Exp_settle_5 : decode b_Exp_settle 5 = .ok (.aload_n 0, 1) := by decide +kernel
theorem d_Exp_settle_6 : decode b_Exp_settle 6 = .ok (.getfield 19, 3) := by decide +kernel
theorem d_Exp_settle_9 : decode b_Exp_settle 9 = .ok (.iload_n 1, 1) := by decide +kernel
theorem d_Exp_settle_10 : decode b_Exp_settle 10 = .ok (.putfield 112, 3) := by decide +kernel
theorem d_Exp_settle_13 : decode b_Exp_settle 13 = .ok (.aload_n 2, 1) := by decide +kernel
theorem d_Exp_settle_14 : decode b_Exp_settle 14 = .ok (.getfield 113, 3) := by decide +kernel
theorem d_Exp_settle_17 : decode b_Exp_settle 17 = .ok (.iconst 2, 1) := by decide +kernel
theorem d_Exp_settle_18 : decode b_Exp_settle 18 = .ok (.if_icmp .eq 11, 3) := by decide +kernel
theorem d_Exp_settle_21 : decode b_Exp_settle 21 = .ok (.aload_n 2, 1) := by decide +kernel
theorem d_Exp_settle_22 : decode b_Exp_settle 22 = .ok (.getfield 113, 3) := by decide +kernel
theorem d_Exp_settle_25 : decode b_Exp_settle 25 = .ok (.iconst 3, 1) := by decide +kernel
theorem d_Exp_settle_26 : decode b_Exp_settle 26 = .ok (.if_icmp .ne 16, 3) := by decide +kernel
theorem d_Exp_settle_29 : decode b_Exp_settle 29 = .ok (.aload_n 0, 1) := by decide +kernel
theorem d_Exp_settle_30 : decode b_Exp_settle 30 = .ok (.getfield 9, 3) := by decide +kernel
theorem d_Exp_settle_33 : decode b_Exp_settle 33 = .ok (.bipush 7, 2) := by decide +kernel
theorem d_Exp_settle_35 : decode b_Exp_settle 35 = .ok (.aload_n 2, 1) := by decide +kernel
theorem d_Exp_settle_36 : decode b_Exp_settle 36 = .ok (.getfield 82, 3) := by decide +kernel
theorem d_Exp_settle_39 : decode b_Exp_settle 39 = .ok (.invokevirtual 85, 3) := by decide +kernel
theorem d_Exp_settle_42 : decode b_Exp_settle 42 = .ok (.aload_n 2, 1) := by decide +kernel
theorem d_Exp_settle_43 : decode b_Exp_settle 43 = .ok (.areturn, 1) := by decide +kernel
theorem q_Exp_settle : px_y y_Exp_settle 2 := by unfold px_y; decide +kernel
set_option maxHeartbeats 4000000 in
set_option maxRecDepth 100000 in
theorem c_ex_settle (l : Launch) (D : va_G) (cs : Nat → ClassId) (he : Nat) (re : Nat → Nat) (eo : Nat → Option Nat) (ef : Nat → Int32) (ea : Nat → Nat → Int32) (eg : Nat → Nat → Option Nat) (rt : Nat → Nat) (ot : Nat → Option Nat) (ta : Nat → Nat → Int32) (tg : Nat → Nat → Option Nat) (tf : Nat → Int32) (rp : Nat → Nat) (of : Option Nat) (cn : Nat) (fp : Nat → Int32) (cd : Nat → Int32) (P : va_W) (hx : Nat) (ox : Option Nat) (fx : Nat → Int32) (p0 : Int32) (c0 : Nat → Int32) (hinv0 : CurOk (tf 10) (tf 13) (tf 14) (tf 15) (tf 17) (ta 0)) (g0 : cn % 4 = 0) (g1 : cn ≤ 100000) (g2 : 0 ≤ (fx 0).toInt) (g3 : 0 ≤ (fx 3).toInt) (g4 : 0 ≤ p0.toInt) (g5 : p0.toInt % 4 = 0) (hpk : Pok cn (fp 3) cd) (hsx : Sy P ox) (hr0 : Prel cn p0 c0 (fp 3) cd) : MetR l y_Exp_settle b_Exp_settle 3 (.object "HomeSystem$Operand") D cs 2 90 (0) (0) [.ref he, .int p0, .ref hx] [wd_Exp cs he re eo ef ea eg, wd_Tok cs (re 0) rt ot tf ta tg, wd_Prg cs (re 2) rp (fun k => if k = 2 then of else none) fp (fun _ _ => 0) (fun _ _ => none), [((rp 1), .inl (cs 0, cn, .inl cd))], P, wd_Opd cs hx (fun _ => 0) (fun k => if k = 4 then ox else none) fx (fun _ _ => 0) (fun _ _ => none)] (fun _ => True) (fun v ps => ∃ (tf' : Nat → Int32) (fp' : Nat → Int32) (cd' : Nat → Int32) (fx' : Nat → Int32), (ps = [wd_Exp cs he re eo ef ea eg, wd_Tok cs (re 0) rt ot tf' ta tg, wd_Prg cs (re 2) rp (fun k => if k = 2 then of else none) fp' (fun _ _ => 0) (fun _ _ => none), [((rp 1), .inl (cs 0, cn, .inl cd'))], P, wd_Opd cs hx (fun _ => 0) (fun k => if k = 4 then ox else none) fx' (fun _ _ => 0) (fun _ _ => none)]) ∧ (CurOk (tf' 10) (tf' 13) (tf' 14) (tf' 15) (tf' 17) (ta 0)) ∧ (Rx v hx) ∧ ((tf' 10).toInt = (tf 10).toInt) ∧ ((tf' 13).toInt = (tf 13).toInt) ∧ ((tf' 14).toInt = (tf 14).toInt) ∧ ((tf' 15).toInt = (tf 15).toInt) ∧ ((fx' 0).toInt = (fx 0).toInt) ∧ ((fx' 3).toInt = (fx 3).toInt) ∧ ((fx' 5).toInt = (fx 5).toInt) ∧ (Prel cn p0 c0 (fp' 3) cd') ∧ ((fp' 3).toInt = p0.toInt) ∧ (R_ex_settle cn P ox p0 tf fp cd fx tf' fp' cd' fx')) := by
  refine px_enter (by decide) (Nat.le_of_ble_eq_true rfl) ?_
  intro p e s m below meth c A ls hAe S hr hlk hnm hA hT hX hw hl
  have hl : lv_has ls 3 [(0, .ref he), (1, .int p0), (2, .ref hx)] := hl
  have lp0 := Int32.le_toInt p0
  have up0 := Int32.toInt_lt p0
  have cst2 : (2 : Int32).toInt = 2 := rfl
  have cst3 : (3 : Int32).toInt = 3 := rfl
  have cst7 : (7 : Int32).toInt = 7 := rfl
  obtain ⟨⟨o1, o2⟩, ⟨o3, o4⟩, ⟨o5, o6⟩, o7, o8, hlast⟩ := hinv0; replace o8 := cur8 o5 o6 o8
  have hrel := Prel.rf hpk
  have pz0 := hrel.nm
  have hrel := hr0
  refine lv_aload_n S.x S.b d_Exp_settle_0 rfl (lv_at hl 0 rfl) ?_
  refine lv_aload_n S.x S.b d_Exp_settle_1 rfl (lv_at hl 2 rfl) ?_
  refine px_callv (pr := []) (px_runV (As := [.ref hx]) (rest := []) S (c_ex_number l D cs he re eo ef ea eg rt ot ta tg tf rp of cn fp cd P hx ox fx   (show CurOk (tf 10) (tf 13) (tf 14) (tf 15) (tf 17) (ta 0) from ⟨⟨by first | exact o1 | omega, by first | exact o2 | omega⟩, ⟨by first | exact o3 | omega, by first | exact o4 | omega⟩, ⟨by first | exact o5 | omega, by first | exact o6 | omega⟩, by first | exact o7 | omega, by first | exact fun q9 => ⟨oz_4cdb73375f o8.1 q9, oz_329f0ac40c o8.2 q9⟩ | omega, last_eq hlast (rfl)⟩) (show cn % 4 = 0 from by first | exact g0 | omega) (show cn ≤ 100000 from by first | exact g1 | omega) (show 0 ≤ (fx 0).toInt from by first | exact g2 | omega) (show 0 ≤ (fx 3).toInt from by first | exact g3 | omega) hrel.1 (by first | assumption | exact sy_none | exact fy_none | exact Fy.sy (by assumption) | exact sy_some (by assumption)) _) hT (pr := []) (pcs := [wd_Exp cs he re eo ef ea eg, wd_Tok cs (re 0) rt ot tf ta tg, wd_Prg cs (re 2) rp (fun k => if k = 2 then of else none) fp (fun _ _ => 0) (fun _ _ => none), [((rp 1), .inl (cs 0, cn, .inl cd))], P, wd_Opd cs hx (fun _ => 0) (fun k => if k = 4 then ox else none) fx (fun _ _ => 0) (fun _ _ => none)]) hw px_X.tt (px_recv hT hw 0 0 rfl rfl rfl) m4_189 m4_186 m4_187 m4_188 m1_17 q_Exp_number ⟨Nat.le_of_ble_eq_true rfl, Nat.le_of_ble_eq_true rfl⟩ hl.1 rfl (Nat.le_of_ble_eq_true rfl) d_Exp_settle_2 ⟨Nat.le_of_ble_eq_true rfl, Nat.le_of_ble_eq_true rfl⟩) hw hA (fun p9 H locs hp9 hw => ?_)
  obtain ⟨tf5, fp6, cd7, fx8, rfl, h21, e11, e12, e13, e14, e15, e16, e17, e18, e19, e20⟩ := hp9
  obtain ⟨⟨o1, o2⟩, ⟨o3, o4⟩, ⟨o5, o6⟩, o7, o8, hlast⟩ := h21; replace o8 := cur8 o5 o6 o8
  have e11 : (tf5 10).toInt = (tf 10).toInt := e11
  have e12 : (tf5 13).toInt = (tf 13).toInt := e12
  have e13 : (tf5 14).toInt = (tf 14).toInt := e13
  have e14 : (tf5 15).toInt = (tf 15).toInt := e14
  have e15 : (fx8 0).toInt = (fx 0).toInt := e15
  have e16 : (fx8 3).toInt = (fx 3).toInt := e16
  have e17 : (fx8 5).toInt = (fx 5).toInt := e17
  have e18 : Prel cn (fp 3) cd (fp6 3) cd7 := e18
  have pm22 := e18.2.1
  have hrel := hrel.tr e18
  have pz23 := hrel.nm
  have e19 : (fp6 3).toInt ≤ (fp 3).toInt + 4 := e19
  have e20 : R_ex_number cn P ox tf fp cd fx tf5 fp6 cd7 fx8 := e20
  have hw : pw D A s.heap H locs [wd_Exp cs he re eo ef ea eg, wd_Tok cs (re 0) rt ot tf5 ta tg, wd_Prg cs (re 2) rp (fun k => if k = 2 then of else none) fp6 (fun _ _ => 0) (fun _ _ => none), [((rp 1), .inl (cs 0, cn, .inl cd7))], P, wd_Opd cs hx (fun _ => 0) (fun k => if k = 4 then ox else none) fx8 (fun _ _ => 0) (fun _ _ => none)] := hw
  refine lv_aload_n S.x S.b d_Exp_settle_5 rfl (lv_at hl 0 rfl) ?_
  refine px_get S k_Exp hT hw 0 0 2 (v := .ref (re 2)) rfl rfl rfl (by decide) m2_133 d_Exp_settle_6 ?_
  refine lv_iload_n S.x S.b d_Exp_settle_9 rfl (lv_at hl 1 rfl) ?_
  refine px_put S k_Prg hT hw 2 0 3 rfl rfl (by decide) m2_107 rfl rfl rfl (Nat.le_of_ble_eq_true rfl) d_Exp_settle_10 (w' := wd_Prg cs (re 2) rp (fun k => if k = 2 then of else none) (upd fp6 3 p0) (fun _ _ => 0) (fun _ _ => none)) (ps' := [wd_Exp cs he re eo ef ea eg, wd_Tok cs (re 0) rt ot tf5 ta tg, wd_Prg cs (re 2) rp (fun k => if k = 2 then of else none) (upd fp6 3 p0) (fun _ _ => 0) (fun _ _ => none), [((rp 1), .inl (cs 0, cn, .inl cd7))], P, wd_Opd cs hx (fun _ => 0) (fun k => if k = 4 then ox else none) fx8 (fun _ _ => 0) (fun _ _ => none)]) rfl rfl (fun H locs hw => ?_)
  have hrel := hrel.back (y := p0) (by omega) (by omega) (by omega) (by omega)
  refine lv_aload_n S.x S.b d_Exp_settle_13 rfl (lv_at hl 2 rfl) ?_
  refine px_get S k_Opd hT hw 5 0 2 (v := .int (fx8 2)) rfl rfl rfl (by decide) m4_223 d_Exp_settle_14 ?_
  refine lv_iconst (v := 2) S.x S.b d_Exp_settle_17 (by decide) ?_
  refine lv_icmp_eq (tgt := 29) S.x S.b d_Exp_settle_18 (by decide) (fun c24 => ?_) (fun c24 => ?_)
  · have nc24 : (fx8 2).toInt = (2 : Int) := (i_eq (x := (fx8 2)) (y := 2)).mp c24
    refine lv_aload_n S.x S.b d_Exp_settle_29 rfl (lv_at hl 0 rfl) ?_
    refine px_get S k_Exp hT hw 0 0 0 (v := .ref (re 0)) rfl rfl rfl (by decide) m2_131 d_Exp_settle_30 ?_
    refine lv_bipush (v := 7) S.x S.b d_Exp_settle_33 (by decide) ?_
    refine lv_aload_n S.x S.b d_Exp_settle_35 rfl (lv_at hl 2 rfl) ?_
    refine px_get S k_Opd hT hw 5 0 0 (v := .int (fx8 0)) rfl rfl rfl (by decide) m4_218 d_Exp_settle_36 ?_
    have hw : pw D A s.heap _ _ [wd_Exp cs he re eo ef ea eg, wd_Prg cs (re 2) rp (fun k => if k = 2 then of else none) (upd fp6 3 p0) (fun _ _ => 0) (fun _ _ => none), [((rp 1), .inl (cs 0, cn, .inl cd7))], P, wd_Opd cs hx (fun _ => 0) (fun k => if k = 4 then ox else none) fx8 (fun _ _ => 0) (fun _ _ => none), wd_Tok cs (re 0) rt ot tf5 ta tg] := hw.sub [0, 2, 3, 4, 5, 1] rfl rfl
    refine px_callv (pr := [wd_Exp cs he re eo ef ea eg, wd_Prg cs (re 2) rp (fun k => if k = 2 then of else none) (upd fp6 3 p0) (fun _ _ => 0) (fun _ _ => none), [((rp 1), .inl (cs 0, cn, .inl cd7))], P, wd_Opd cs hx (fun _ => 0) (fun k => if k = 4 then ox else none) fx8 (fun _ _ => 0) (fun _ _ => none)]) (px_runV (As := [.int 7, .int (fx8 0)]) (rest := []) S (c_tk_blame l D cs (re 0) rt ot ta tg tf5 7 (fx8 0)  (show CurOk (tf5 10) (tf5 13) (tf5 14) (tf5 15) (tf5 17) (ta 0) from ⟨⟨by first | exact o1 | omega, by first | exact o2 | omega⟩, ⟨by first | exact o3 | omega, by first | exact o4 | omega⟩, ⟨by first | exact o5 | omega, by first | exact o6 | omega⟩, by first | exact o7 | omega, by first | exact fun q9 => ⟨oz_4cdb73375f o8.1 q9, oz_329f0ac40c o8.2 q9⟩ | omega, last_eq hlast (rfl)⟩) (show 0 ≤ (fx8 0).toInt from by first | exact oz_f3ebed1ad0 e15 g2 | omega) _) hT (pr := [wd_Exp cs he re eo ef ea eg, wd_Prg cs (re 2) rp (fun k => if k = 2 then of else none) (upd fp6 3 p0) (fun _ _ => 0) (fun _ _ => none), [((rp 1), .inl (cs 0, cn, .inl cd7))], P, wd_Opd cs hx (fun _ => 0) (fun k => if k = 4 then ox else none) fx8 (fun _ _ => 0) (fun _ _ => none)]) (pcs := [wd_Tok cs (re 0) rt ot tf5 ta tg]) hw px_X.tt (px_recv hT hw 5 0 rfl rfl rfl) m4_173 m4_170 m4_171 m4_172 m1_2 q_Tok_blame ⟨Nat.le_of_ble_eq_true rfl, Nat.le_of_ble_eq_true rfl⟩ hl.1 rfl (Nat.le_of_ble_eq_true rfl) d_Exp_settle_39 ⟨Nat.le_of_ble_eq_true rfl, Nat.le_of_ble_eq_true rfl⟩) hw hA (fun p27 H locs hp27 hw => ?_)
    obtain ⟨tf26, rfl, h34, e29, e30, e31, e32, e33⟩ := hp27
    obtain ⟨⟨o1, o2⟩, ⟨o3, o4⟩, ⟨o5, o6⟩, o7, o8, hlast⟩ := h34
    have e29 : (tf26 10).toInt = (tf5 10).toInt := e29
    have e30 : (tf26 14).toInt = (tf5 14).toInt := e30
    have e31 : (tf26 15).toInt = (tf5 15).toInt := e31
    have e32 : (tf26 13).toInt = (tf5 13).toInt := e32
    have e33 : R_tk_blame (7 : Int32) (fx8 0) tf5 tf26 := e33
    have hw : pw D A s.heap H locs [wd_Exp cs he re eo ef ea eg, wd_Prg cs (re 2) rp (fun k => if k = 2 then of else none) (upd fp6 3 p0) (fun _ _ => 0) (fun _ _ => none), [((rp 1), .inl (cs 0, cn, .inl cd7))], P, wd_Opd cs hx (fun _ => 0) (fun k => if k = 4 then ox else none) fx8 (fun _ _ => 0) (fun _ _ => none), wd_Tok cs (re 0) rt ot tf26 ta tg] := hw
    refine lv_aload_n S.x S.b d_Exp_settle_42 rfl (lv_at hl 2 rfl) ?_
    have hw : pw D A s.heap _ _ [wd_Exp cs he re eo ef ea eg, wd_Tok cs (re 0) rt ot tf26 ta tg, wd_Prg cs (re 2) rp (fun k => if k = 2 then of else none) (upd fp6 3 p0) (fun _ _ => 0) (fun _ _ => none), [((rp 1), .inl (cs 0, cn, .inl cd7))], P, wd_Opd cs hx (fun _ => 0) (fun k => if k = 4 then ox else none) fx8 (fun _ _ => 0) (fun _ _ => none)] := hw.sub [0, 5, 1, 2, 3, 4] rfl rfl
    exact px_aret (v := (some hx)) S hr (Or.inl ⟨_, rfl⟩) hlk hAe hw (Nat.le_of_ble_eq_true rfl) (Nat.le_of_ble_eq_true rfl) (⟨tf26, (upd fp6 3 p0), cd7, fx8, rfl, (show CurOk (tf26 10) (tf26 13) (tf26 14) (tf26 15) (tf26 17) (ta 0) from ⟨⟨by first | exact o1 | omega, by first | exact o2 | omega⟩, ⟨by first | exact o3 | omega, by first | exact o4 | omega⟩, ⟨by first | exact o5 | omega, by first | exact o6 | omega⟩, by first | exact o7 | omega, by omega, last_eq hlast (rfl)⟩), (show Rx (some hx) hx from rfl), (show (tf26 10).toInt = (tf 10).toInt from by first | exact oz_1687f4cc65 e11 e29 | omega), (show (tf26 13).toInt = (tf 13).toInt from by first | exact oz_1687f4cc65 e12 e32 | omega), (show (tf26 14).toInt = (tf 14).toInt from by first | exact oz_1687f4cc65 e13 e30 | omega), (show (tf26 15).toInt = (tf 15).toInt from by first | exact oz_1687f4cc65 e14 e31 | omega), (show (fx8 0).toInt = (fx 0).toInt from by first | exact e15 | omega), (show (fx8 3).toInt = (fx 3).toInt from by first | exact e16 | omega), (show (fx8 5).toInt = (fx 5).toInt from by first | exact e17 | omega), (show Prel cn p0 c0 p0 cd7 from hrel), (show p0.toInt = p0.toInt from rfl), (show R_ex_settle cn P ox p0 tf fp cd fx tf26 (upd fp6 3 p0) cd7 fx8 from (Or.inl ⟨tf5, fp6, cd7, fx8, e20, Or.inl ⟨nc24, tf26, e33, rfl, rfl, rfl, rfl⟩⟩))⟩) d_Exp_settle_43
  · have nc24 : ¬ (fx8 2).toInt = (2 : Int) := mt (i_eq (x := (fx8 2)) (y := 2)).mpr c24
    refine lv_aload_n S.x S.b d_Exp_settle_21 rfl (lv_at hl 2 rfl) ?_
    refine px_get S k_Opd hT hw 5 0 2 (v := .int (fx8 2)) rfl rfl rfl (by decide) m4_223 d_Exp_settle_22 ?_
    refine lv_iconst (v := 3) S.x S.b d_Exp_settle_25 (by decide) ?_
    refine lv_icmp_ne (tgt := 42) S.x S.b d_Exp_settle_26 (by decide) (fun c35 => ?_) (fun c35 => ?_)
    · have nc35 : ¬ (fx8 2).toInt = (3 : Int) := mt (i_eq (x := (fx8 2)) (y := 3)).mpr c35
      refine lv_aload_n S.x S.b d_Exp_settle_42 rfl (lv_at hl 2 rfl) ?_
      exact px_aret (v := (some hx)) S hr (Or.inl ⟨_, rfl⟩) hlk hAe hw (Nat.le_of_ble_eq_true rfl) (Nat.le_of_ble_eq_true rfl) (⟨tf5, (upd fp6 3 p0), cd7, fx8, rfl, (show CurOk (tf5 10) (tf5 13) (tf5 14) (tf5 15) (tf5 17) (ta 0) from ⟨⟨by first | exact o1 | omega, by first | exact o2 | omega⟩, ⟨by first | exact o3 | omega, by first | exact o4 | omega⟩, ⟨by first | exact o5 | omega, by first | exact o6 | omega⟩, by first | exact o7 | omega, by first | exact fun q9 => ⟨oz_4cdb73375f o8.1 q9, oz_329f0ac40c o8.2 q9⟩ | omega, last_eq hlast (rfl)⟩), (show Rx (some hx) hx from rfl), (show (tf5 10).toInt = (tf 10).toInt from by first | exact e11 | omega), (show (tf5 13).toInt = (tf 13).toInt from by first | exact e12 | omega), (show (tf5 14).toInt = (tf 14).toInt from by first | exact e13 | omega), (show (tf5 15).toInt = (tf 15).toInt from by first | exact e14 | omega), (show (fx8 0).toInt = (fx 0).toInt from by first | exact e15 | omega), (show (fx8 3).toInt = (fx 3).toInt from by first | exact e16 | omega), (show (fx8 5).toInt = (fx 5).toInt from by first | exact e17 | omega), (show Prel cn p0 c0 p0 cd7 from hrel), (show p0.toInt = p0.toInt from rfl), (show R_ex_settle cn P ox p0 tf fp cd fx tf5 (upd fp6 3 p0) cd7 fx8 from (Or.inl ⟨tf5, fp6, cd7, fx8, e20, Or.inr ⟨nc24, Or.inl ⟨nc35, rfl, rfl, rfl, rfl⟩⟩⟩))⟩) d_Exp_settle_43
    · have nc35 : (fx8 2).toInt = (3 : Int) := (i_eq (x := (fx8 2)) (y := 3)).mp c35
      refine lv_aload_n S.x S.b d_Exp_settle_29 rfl (lv_at hl 0 rfl) ?_
      refine px_get S k_Exp hT hw 0 0 0 (v := .ref (re 0)) rfl rfl rfl (by decide) m2_131 d_Exp_settle_30 ?_
      refine lv_bipush (v := 7) S.x S.b d_Exp_settle_33 (by decide) ?_
      refine lv_aload_n S.x S.b d_Exp_settle_35 rfl (lv_at hl 2 rfl) ?_
      refine px_get S k_Opd hT hw 5 0 0 (v := .int (fx8 0)) rfl rfl rfl (by decide) m4_218 d_Exp_settle_36 ?_
      have hw : pw D A s.heap _ _ [wd_Exp cs he re eo ef ea eg, wd_Prg cs (re 2) rp (fun k => if k = 2 then of else none) (upd fp6 3 p0) (fun _ _ => 0) (fun _ _ => none), [((rp 1), .inl (cs 0, cn, .inl cd7))], P, wd_Opd cs hx (fun _ => 0) (fun k => if k = 4 then ox else none) fx8 (fun _ _ => 0) (fun _ _ => none), wd_Tok cs (re 0) rt ot tf5 ta tg] := hw.sub [0, 2, 3, 4, 5, 1] rfl rfl
      refine px_callv (pr := [wd_Exp cs he re eo ef ea eg, wd_Prg cs (re 2) rp (fun k => if k = 2 then of else none) (upd fp6 3 p0) (fun _ _ => 0) (fun _ _ => none), [((rp 1), .inl (cs 0, cn, .inl cd7))], P, wd_Opd cs hx (fun _ => 0) (fun k => if k = 4 then ox else none) fx8 (fun _ _ => 0) (fun _ _ => none)]) (px_runV (As := [.int 7, .int (fx8 0)]) (rest := []) S (c_tk_blame l D cs (re 0) rt ot ta tg tf5 7 (fx8 0)  (show CurOk (tf5 10) (tf5 13) (tf5 14) (tf5 15) (tf5 17) (ta 0) from ⟨⟨by first | exact o1 | omega, by first | exact o2 | omega⟩, ⟨by first | exact o3 | omega, by first | exact o4 | omega⟩, ⟨by first | exact o5 | omega, by first | exact o6 | omega⟩, by first | exact o7 | omega, by first | exact fun q9 => ⟨oz_4cdb73375f o8.1 q9, oz_329f0ac40c o8.2 q9⟩ | omega, last_eq hlast (rfl)⟩) (show 0 ≤ (fx8 0).toInt from by first | exact oz_f3ebed1ad0 e15 g2 | omega) _) hT (pr := [wd_Exp cs he re eo ef ea eg, wd_Prg cs (re 2) rp (fun k => if k = 2 then of else none) (upd fp6 3 p0) (fun _ _ => 0) (fun _ _ => none), [((rp 1), .inl (cs 0, cn, .inl cd7))], P, wd_Opd cs hx (fun _ => 0) (fun k => if k = 4 then ox else none) fx8 (fun _ _ => 0) (fun _ _ => none)]) (pcs := [wd_Tok cs (re 0) rt ot tf5 ta tg]) hw px_X.tt (px_recv hT hw 5 0 rfl rfl rfl) m4_173 m4_170 m4_171 m4_172 m1_2 q_Tok_blame ⟨Nat.le_of_ble_eq_true rfl, Nat.le_of_ble_eq_true rfl⟩ hl.1 rfl (Nat.le_of_ble_eq_true rfl) d_Exp_settle_39 ⟨Nat.le_of_ble_eq_true rfl, Nat.le_of_ble_eq_true rfl⟩) hw hA (fun p38 H locs hp38 hw => ?_)
      obtain ⟨tf37, rfl, h45, e40, e41, e42, e43, e44⟩ := hp38
      obtain ⟨⟨o1, o2⟩, ⟨o3, o4⟩, ⟨o5, o6⟩, o7, o8, hlast⟩ := h45
      have e40 : (tf37 10).toInt = (tf5 10).toInt := e40
      have e41 : (tf37 14).toInt = (tf5 14).toInt := e41
      have e42 : (tf37 15).toInt = (tf5 15).toInt := e42
      have e43 : (tf37 13).toInt = (tf5 13).toInt := e43
      have e44 : R_tk_blame (7 : Int32) (fx8 0) tf5 tf37 := e44
      have hw : pw D A s.heap H locs [wd_Exp cs he re eo ef ea eg, wd_Prg cs (re 2) rp (fun k => if k = 2 then of else none) (upd fp6 3 p0) (fun _ _ => 0) (fun _ _ => none), [((rp 1), .inl (cs 0, cn, .inl cd7))], P, wd_Opd cs hx (fun _ => 0) (fun k => if k = 4 then ox else none) fx8 (fun _ _ => 0) (fun _ _ => none), wd_Tok cs (re 0) rt ot tf37 ta tg] := hw
      refine lv_aload_n S.x S.b d_Exp_settle_42 rfl (lv_at hl 2 rfl) ?_
      have hw : pw D A s.heap _ _ [wd_Exp cs he re eo ef ea eg, wd_Tok cs (re 0) rt ot tf37 ta tg, wd_Prg cs (re 2) rp (fun k => if k = 2 then of else none) (upd fp6 3 p0) (fun _ _ => 0) (fun _ _ => none), [((rp 1), .inl (cs 0, cn, .inl cd7))], P, wd_Opd cs hx (fun _ => 0) (fun k => if k = 4 then ox else none) fx8 (fun _ _ => 0) (fun _ _ => none)] := hw.sub [0, 5, 1, 2, 3, 4] rfl rfl
      exact px_aret (v := (some hx)) S hr (Or.inl ⟨_, rfl⟩) hlk hAe hw (Nat.le_of_ble_eq_true rfl) (Nat.le_of_ble_eq_true rfl) (⟨tf37, (upd fp6 3 p0), cd7, fx8, rfl, (show CurOk (tf37 10) (tf37 13) (tf37 14) (tf37 15) (tf37 17) (ta 0) from ⟨⟨by first | exact o1 | omega, by first | exact o2 | omega⟩, ⟨by first | exact o3 | omega, by first | exact o4 | omega⟩, ⟨by first | exact o5 | omega, by first | exact o6 | omega⟩, by first | exact o7 | omega, by omega, last_eq hlast (rfl)⟩), (show Rx (some hx) hx from rfl), (show (tf37 10).toInt = (tf 10).toInt from by first | exact oz_1687f4cc65 e11 e40 | omega), (show (tf37 13).toInt = (tf 13).toInt from by first | exact oz_1687f4cc65 e12 e43 | omega), (show (tf37 14).toInt = (tf 14).toInt from by first | exact oz_1687f4cc65 e13 e41 | omega), (show (tf37 15).toInt = (tf 15).toInt from by first | exact oz_1687f4cc65 e14 e42 | omega), (show (fx8 0).toInt = (fx 0).toInt from by first | exact e15 | omega), (show (fx8 3).toInt = (fx 3).toInt from by first | exact e16 | omega), (show (fx8 5).toInt = (fx 5).toInt from by first | exact e17 | omega), (show Prel cn p0 c0 p0 cd7 from hrel), (show p0.toInt = p0.toInt from rfl), (show R_ex_settle cn P ox p0 tf fp cd fx tf37 (upd fp6 3 p0) cd7 fx8 from (Or.inl ⟨tf5, fp6, cd7, fx8, e20, Or.inr ⟨nc24, Or.inr ⟨nc35, tf37, e44, rfl, rfl, rfl, rfl⟩⟩⟩))⟩) d_Exp_settle_43
