theorem oz_b28f4ffe05 {a0 a1 : Int} (h0 : a0 = a1 - (1 : Int)) (h1 : 1 ≤ a1) (h2 : a1 ≤ 62500) : 0 ≤ a0 ∧ a0 < ((62500 : Nat) : Int) := by omega
theorem m10_223 : Cond.fieldLink "HomeSystemModel$Process" 44 "HomeSystemModel$Process" "begun" "Z" ∈ AL := AL_10 (List.mem_of_getElem? (i := 223) rfl) rfl
theorem m10_225 : Cond.fieldLink "HomeSystemModel$Process" 48 "HomeSystemModel$Process" "outcome" "I" ∈ AL := AL_10 (List.mem_of_getElem? (i := 225) rfl) rfl
theorem m11_0 : Cond.fieldLink "HomeSystemModel$Process" 74 "HomeSystemModel$Process" "found" "I" ∈ AL := AL_11 (List.mem_of_getElem? (i := 0) rfl) rfl
theorem m10_227 : Cond.fieldLink "HomeSystemModel$Process" 56 "HomeSystemModel$Process" "value" "I" ∈ AL := AL_10 (List.mem_of_getElem? (i := 227) rfl) rfl
/-! PROCESSES of the reference: what is written -/
def NuU (qa qa' : Nat → Nat → Int32) (k : Nat) (n : Int) (x : Int32) : Prop := (∀ j : Nat, j ≠ k → qa' j = qa j) ∧ (∀ i : Nat, (i : Int) ≠ n → qa' k i = qa k i) ∧ qa' k n.toNat = x
theorem nuu_mk {qa qa' : Nat → Nat → Int32} {k : Nat} {n : Int} {i x : Int32} (u : qa' = va_up qa k (upd (qa k) i.toNatClampNeg x)) (h0 : 0 ≤ i.toInt) (e : i.toInt = n) : NuU qa qa' k n x := by
  have c := cl_nat h0
  subst u
  refine ⟨fun j hj => va_up_n hj, fun j hj => ?_, ?_⟩
  · rw [va_up_s, pk_un (by omega)]
  · rw [va_up_s, show n.toNat = i.toNatClampNeg by omega, pk_us]
abbrev b_Mpr_isGoing : ByteArray := prog_15_method_2_code
def y_Mpr_isGoing : MethodName := ⟨"HomeSystemModel$Process", "isGoing", "()Z"⟩
theorem d_Mpr_isGoing_0 : decode b_Mpr_isGoing 0 = .ok (.aload_n 0, 1) := by decide +kernel
theorem d_Mpr_isGoing_1 : decode b_Mpr_isGoing 1 = .ok (.getfield 44, 3) := by decide +kernel
theorem d_Mpr_isGoing_4 : decode b_Mpr_isGoing 4 = .ok (.ifCond .eq 16, 3) := by decide +kernel
theorem d_Mpr_isGoing_7 : decode b_Mpr_isGoing 7 = .ok (.aload_n 0, 1) := by decide +kernel
theorem d_Mpr_isGoing_8 : decode b_Mpr_isGoing 8 = .ok (.getfield 48, 3) := by decide +kernel
theorem d_Mpr_isGoing_11 : decode b_Mpr_isGoing 11 = .ok (.bipush (-2), 2) := by decide +kernel
theorem d_Mpr_isGoing_13 : decode b_Mpr_isGoing 13 = .ok (.if_icmp .ne 7, 3) := by decide +kernel
theorem d_Mpr_isGoing_16 : decode b_Mpr_isGoing 16 = .ok (.iconst 1, 1) := by decide +kernel
theorem d_Mpr_isGoing_17 : decode b_Mpr_isGoing 17 = .ok (.goto 4, 3) := by decide +kernel
theorem d_Mpr_isGoing_20 : decode b_Mpr_isGoing 20 = .ok (.iconst 0, 1) := by decide +kernel
theorem d_Mpr_isGoing_21 : decode b_Mpr_isGoing 21 = .ok (.ireturn, 1) := by decide +kernel
theorem q_Mpr_isGoing : px_y y_Mpr_isGoing 0 := by unfold px_y; decide +kernel
abbrev b_Mpr_hasEnded : ByteArray := prog_15_method_3_code
def y_Mpr_hasEnded : MethodName := ⟨"HomeSystemModel$Process", "hasEnded", "()Z"⟩
theorem d_Mpr_hasEnded_0 : decode b_Mpr_hasEnded 0 = .ok (.aload_n 0, 1) := by decide +kernel
theorem d_Mpr_hasEnded_1 : decode b_Mpr_hasEnded 1 = .ok (.getfield 44, 3) := by decide +kernel
theorem d_Mpr_hasEnded_4 : decode b_Mpr_hasEnded 4 = .ok (.ifCond .eq 16, 3) := by decide +kernel
theorem d_Mpr_hasEnded_7 : decode b_Mpr_hasEnded 7 = .ok (.aload_n 0, 1) := by decide +kernel
theorem d_Mpr_hasEnded_8 : decode b_Mpr_hasEnded 8 = .ok (.getfield 48, 3) := by decide +kernel
theorem d_Mpr_hasEnded_11 : decode b_Mpr_hasEnded 11 = .ok (.bipush (-2), 2) := by decide +kernel
theorem d_Mpr_hasEnded_13 : decode b_Mpr_hasEnded 13 = .ok (.if_icmp .eq 7, 3) := by decide +kernel
theorem d_Mpr_hasEnded_16 : decode b_Mpr_hasEnded 16 = .ok (.iconst 1, 1) := by decide +kernel
theorem d_Mpr_hasEnded_17 : decode b_Mpr_hasEnded 17 = .ok (.goto 4, 3) := by decide +kernel
theorem d_Mpr_hasEnded_20 : decode b_Mpr_hasEnded 20 = .ok (.iconst 0, 1) := by decide +kernel
theorem d_Mpr_hasEnded_21 : decode b_Mpr_hasEnded 21 = .ok (.ireturn, 1) := by decide +kernel
theorem q_Mpr_hasEnded : px_y y_Mpr_hasEnded 0 := by unfold px_y; decide +kernel
abbrev b_Mpr_give : ByteArray := prog_15_method_5_code
def y_Mpr_give : MethodName := ⟨"HomeSystemModel$Process", "give", "(I)V"⟩
theorem d_Mpr_give_0 : decode b_Mpr_give 0 = .ok (.aload_n 0, 1) := by decide +kernel
theorem d_Mpr_give_1 : decode b_Mpr_give 1 = .ok (.getfield 17, 3) := by decide +kernel
theorem d_Mpr_give_4 : decode b_Mpr_give 4 = .ok (.aload_n 0, 1) := by decide +kernel
theorem d_Mpr_give_5 : decode b_Mpr_give 5 = .ok (.getfield 74, 3) := by decide +kernel
theorem d_Mpr_give_8 : decode b_Mpr_give 8 = .ok (.iload_n 1, 1) := by decide +kernel
theorem d_Mpr_give_9 : decode b_Mpr_give 9 = .ok (.iastore, 1) := by decide +kernel
theorem d_Mpr_give_10 : decode b_Mpr_give 10 = .ok (.aload_n 0, 1) := by decide +kernel
theorem d_Mpr_give_11 : decode b_Mpr_give 11 = .ok (.dup, 1) := by decide +kernel
theorem d_Mpr_give_12 : decode b_Mpr_give 12 = .ok (.getfield 74, 3) := by decide +kernel
theorem d_Mpr_give_15 : decode b_Mpr_give 15 = .ok (.iconst 1, 1) := by decide +kernel
theorem d_Mpr_give_16 : decode b_Mpr_give 16 = .ok (.iadd, 1) := by decide +kernel
theorem d_Mpr_give_17 : decode b_Mpr_give 17 = .ok (.putfield 74, 3) := by decide +kernel
theorem d_Mpr_give_20 : decode b_Mpr_give 20 = .ok (.return_, 1) := by decide +kernel
theorem q_Mpr_give : px_y y_Mpr_give 1 := by unfold px_y; decide +kernel
set_option maxHeartbeats 4000000 in
set_option maxRecDepth 100000 in
theorem c_mr_give (l : Launch) (D : va_G) (cs : Nat → ClassId) (nf : Int) (q : Nat) (qr : Nat → Nat) (qg : Nat → Nat → Option Nat) (qf : Nat → Int32) (qa : Nat → Nat → Int32) (h : Nat) (r : Nat → Nat) (g : Nat → Nat → Option Nat) (tf : Nat → Int32) (ta : Nat → Nat → Int32) (pf : Nat → Int32) (na : Nat → Nat → Int32) (ma : Nat → Nat → Int32) (wa : Nat → Nat → Int32) (cf : Nat → Int32) (ca : Nat → Nat → Int32) (ef : Nat → Int32) (ea : Nat → Nat → Int32) (xf : Nat → Int32) (xa : Nat → Nat → Int32) (p0 : Int32)  (g0 : 0 ≤ (qf 10).toInt) (g1 : (qf 10).toInt < 62500) : MetV l y_Mpr_give b_Mpr_give 2 D cs 0 0 (0) (0) [.ref q, .int p0] [wd_Mpr cs q qr (fun k => if k = 0 then (some h) else none) qf qa qg, wdP cs h r g tf ta pf na ma wa cf ca ef ea xf xa] (oX (fun A U H => (oP A g U H)) [wd_Mpr cs q qr (fun k => if k = 0 then (some h) else none) qf qa qg, wdP cs h r g tf ta pf na ma wa cf ca ef ea xf xa]) (fun ps => ∃ (qf' : Nat → Int32) (qa' : Nat → Nat → Int32), (ps = [wd_Mpr cs q qr (fun k => if k = 0 then (some h) else none) qf' qa' qg, wdP cs h r g tf ta pf na ma wa cf ca ef ea xf xa]) ∧ ((qf' 10).toInt = (qf 10).toInt + 1) ∧ ((qf' 1).toInt = (qf 1).toInt) ∧ ((qf' 2).toInt = (qf 2).toInt) ∧ ((qf' 3).toInt = (qf 3).toInt) ∧ ((qf' 4).toInt = (qf 4).toInt) ∧ ((qf' 5).toInt = (qf 5).toInt) ∧ ((qf' 6).toInt = (qf 6).toInt) ∧ ((qf' 7).toInt = (qf 7).toInt) ∧ ((qf' 11).toInt = (qf 11).toInt) ∧ ((qf' 12).toInt = (qf 12).toInt) ∧ ((qf' 13).toInt = (qf 13).toInt) ∧ ((qf' 14).toInt = (qf 14).toInt) ∧ ((qf' 21).toInt = (qf 21).toInt) ∧ ((qf' 23).toInt = (qf 23).toInt) ∧ ((qf' 24).toInt = (qf 24).toInt) ∧ (NuU qa qa' 9 (qf 10).toInt p0)) := by
  refine px_enter (by decide) (Nat.le_of_ble_eq_true rfl) ?_
  intro p e s m below meth c A ls hAe S hr hlk hnm hA hT hX hw hl
  replace hl : lv_has ls 2 [(0, .ref q), (1, .int p0)] := hl
  have lp0 := Int32.le_toInt p0
  have up0 := Int32.toInt_lt p0
  have cst1 : (1 : Int32).toInt = 1 := rfl
  have hX : (fun A U H => (oP A g U H)) A s s.heap := by rw [hAe]; exact hX
  have hP := hX
  have hZ := hP.1
  have hF0 := hP.2.1
  refine lv_aload_n S.x S.b d_Mpr_give_0 rfl (lv_at hl 0 rfl) ?_
  refine px_get S k_Mpr hT hw 0 0 9 (v := .ref (qr 9)) rfl rfl rfl (by decide) m10_238 d_Mpr_give_1 ?_
  refine lv_aload_n S.x S.b d_Mpr_give_4 rfl (lv_at hl 0 rfl) ?_
  refine px_get S k_Mpr hT hw 0 0 10 (v := .int (qf 10)) rfl rfl rfl (by decide) m11_0 d_Mpr_give_5 ?_
  refine lv_iload_n S.x S.b d_Mpr_give_8 rfl (lv_at hl 1 rfl) ?_
  refine px_iast S hT hw 0 2 (n := 62500) (f := (qa 9)) (x := (qf 10)) (y := p0) rfl (ga_Mpr_9 _ _ _ _ _ _ _) (vp_in_iff.mpr (by constructor <;> omega)) d_Mpr_give_9 (w' := wd_Mpr cs q qr (fun k => if k = 0 then (some h) else none) qf (va_up qa 9 (upd (qa 9) (qf 10).toNatClampNeg p0)) qg) (ps' := [wd_Mpr cs q qr (fun k => if k = 0 then (some h) else none) qf (va_up qa 9 (upd (qa 9) (qf 10).toNatClampNeg p0)) qg, wdP cs h r g tf ta pf na ma wa cf ca ef ea xf xa]) (sa_Mpr_9 _ _ _ _ _ _ _ _) rfl (fun H locs hw => ?_)
  refine lv_aload_n S.x S.b d_Mpr_give_10 rfl (lv_at hl 0 rfl) ?_
  refine lv_dup S.x S.b d_Mpr_give_11 rfl ?_
  refine px_get S k_Mpr hT hw 0 0 10 (v := .int (qf 10)) rfl rfl rfl (by decide) m11_0 d_Mpr_give_12 ?_
  refine lv_iconst (v := 1) S.x S.b d_Mpr_give_15 (by decide) ?_
  refine lv_iadd S.x S.b d_Mpr_give_16 ?_
  have lr1 := Int32.le_toInt (qf 10)
  have ur1 := Int32.toInt_lt (qf 10)
  refine lv_topi (fun z2 ez2 => ?_)
  have tz2 : z2.toInt = ((qf 10).toInt + (1 : Int) + 2147483648) % 4294967296 - 2147483648 := by rw [ez2]; exact i_add (qf 10) 1
  have lz2 := Int32.le_toInt z2
  have uz2 := Int32.toInt_lt z2
  try replace tz2 : z2.toInt = (qf 10).toInt + (1 : Int) := by omega
  refine px_put S k_Mpr hT hw 0 0 10 rfl rfl (by decide) m11_0 rfl rfl rfl (Nat.le_of_ble_eq_true rfl) d_Mpr_give_17 (w' := wd_Mpr cs q qr (fun k => if k = 0 then (some h) else none) (upd qf 10 z2) (va_up qa 9 (upd (qa 9) (qf 10).toNatClampNeg p0)) qg) (ps' := [wd_Mpr cs q qr (fun k => if k = 0 then (some h) else none) (upd qf 10 z2) (va_up qa 9 (upd (qa 9) (qf 10).toNatClampNeg p0)) qg, wdP cs h r g tf ta pf na ma wa cf ca ef ea xf xa]) rfl rfl (fun H locs hw => ?_)
  exact px_vret S hr hlk hAe hw (Nat.le_of_ble_eq_true rfl) (Nat.le_of_ble_eq_true rfl) (⟨(upd qf 10 z2), (va_up qa 9 (upd (qa 9) (qf 10).toNatClampNeg p0)), rfl, (show z2.toInt = (qf 10).toInt + 1 from by first | exact oz_037caa6b79 tz2 | omega), (show (qf 1).toInt = (qf 1).toInt from rfl), (show (qf 2).toInt = (qf 2).toInt from rfl), (show (qf 3).toInt = (qf 3).toInt from rfl), (show (qf 4).toInt = (qf 4).toInt from rfl), (show (qf 5).toInt = (qf 5).toInt from rfl), (show (qf 6).toInt = (qf 6).toInt from rfl), (show (qf 7).toInt = (qf 7).toInt from rfl), (show (qf 11).toInt = (qf 11).toInt from rfl), (show (qf 12).toInt = (qf 12).toInt from rfl), (show (qf 13).toInt = (qf 13).toInt from rfl), (show (qf 14).toInt = (qf 14).toInt from rfl), (show (qf 21).toInt = (qf 21).toInt from rfl), (show (qf 23).toInt = (qf 23).toInt from rfl), (show (qf 24).toInt = (qf 24).toInt from rfl), (show NuU qa (va_up qa 9 (upd (qa 9) (qf 10).toNatClampNeg p0)) 9 (qf 10).toInt p0 from (nuu_mk rfl (by omega) (by omega)))⟩) d_Mpr_give_20
abbrev b_Mpr_take : ByteArray := prog_15_method_6_code
def y_Mpr_take : MethodName := ⟨"HomeSystemModel$Process", "take", "()I"⟩
theorem d_Mpr_take_0 : decode b_Mpr_take 0 = .ok (.aload_n 0, 1) := by decide +kernel
theorem d_Mpr_take_1 : decode b_Mpr_take 1 = .ok (.dup, 1) := by decide +kernel
theorem d_Mpr_take_2 : decode b_Mpr_take 2 = .ok (.getfield 74, 3) := by decide +kernel
theorem d_Mpr_take_5 : decode b_Mpr_take 5 = .ok (.iconst 1, 1) := by decide +kernel
theorem d_Mpr_take_6 : decode b_Mpr_take 6 = .ok (.isub, 1) := by decide +kernel
theorem d_Mpr_take_7 : decode b_Mpr_take 7 = .ok (.putfield 74, 3) := by decide +kernel
theorem d_Mpr_take_10 : decode b_Mpr_take 10 = .ok (.aload_n 0, 1) := by decide +kernel
theorem d_Mpr_take_11 : decode b_Mpr_take 11 = .ok (.getfield 17, 3) := by decide +kernel
theorem d_Mpr_take_14 : decode b_Mpr_take 14 = .ok (.aload_n 0, 1) := by decide +kernel
theorem d_Mpr_take_15 : decode b_Mpr_take 15 = .ok (.getfield 74, 3) := by decide +kernel
theorem d_Mpr_take_18 : decode b_Mpr_take 18 = .ok (.iaload, 1) := by decide +kernel
theorem d_Mpr_take_19 : decode b_Mpr_take 19 = .ok (.ireturn, 1) := by decide +kernel
theorem q_Mpr_take : px_y y_Mpr_take 0 := by unfold px_y; decide +kernel
set_option maxHeartbeats 4000000 in
set_option maxRecDepth 100000 in
theorem c_mr_take (l : Launch) (D : va_G) (cs : Nat → ClassId) (nf : Int) (q : Nat) (qr : Nat → Nat) (qg : Nat → Nat → Option Nat) (qa : Nat → Nat → Int32) (qf : Nat → Int32) (h : Nat) (r : Nat → Nat) (g : Nat → Nat → Option Nat) (tf : Nat → Int32) (ta : Nat → Nat → Int32) (pf : Nat → Int32) (na : Nat → Nat → Int32) (ma : Nat → Nat → Int32) (wa : Nat → Nat → Int32) (cf : Nat → Int32) (ca : Nat → Nat → Int32) (ef : Nat → Int32) (ea : Nat → Nat → Int32) (xf : Nat → Int32) (xa : Nat → Nat → Int32)  (g0 : 1 ≤ (qf 10).toInt) (g1 : (qf 10).toInt ≤ 62500) : MetI l y_Mpr_take b_Mpr_take 1 (.int) D cs 0 0 (0) (0) [.ref q] [wd_Mpr cs q qr (fun k => if k = 0 then (some h) else none) qf qa qg, wdP cs h r g tf ta pf na ma wa cf ca ef ea xf xa] (oX (fun A U H => (oP A g U H)) [wd_Mpr cs q qr (fun k => if k = 0 then (some h) else none) qf qa qg, wdP cs h r g tf ta pf na ma wa cf ca ef ea xf xa]) (fun v ps => ∃ (qf' : Nat → Int32), (ps = [wd_Mpr cs q qr (fun k => if k = 0 then (some h) else none) qf' qa qg, wdP cs h r g tf ta pf na ma wa cf ca ef ea xf xa]) ∧ ((qf' 10).toInt = (qf 10).toInt - 1) ∧ ((qf' 1).toInt = (qf 1).toInt) ∧ ((qf' 2).toInt = (qf 2).toInt) ∧ ((qf' 3).toInt = (qf 3).toInt) ∧ ((qf' 4).toInt = (qf 4).toInt) ∧ ((qf' 5).toInt = (qf 5).toInt) ∧ ((qf' 6).toInt = (qf 6).toInt) ∧ ((qf' 7).toInt = (qf 7).toInt) ∧ ((qf' 11).toInt = (qf 11).toInt) ∧ ((qf' 12).toInt = (qf 12).toInt) ∧ ((qf' 13).toInt = (qf 13).toInt) ∧ ((qf' 14).toInt = (qf 14).toInt) ∧ ((qf' 21).toInt = (qf 21).toInt) ∧ ((qf' 23).toInt = (qf 23).toInt) ∧ ((qf' 24).toInt = (qf 24).toInt)) := by
  refine px_enter (by decide) (Nat.le_of_ble_eq_true rfl) ?_
  intro p e s m below meth c A ls hAe S hr hlk hnm hA hT hX hw hl
  replace hl : lv_has ls 1 [(0, .ref q)] := hl
  have cst1 : (1 : Int32).toInt = 1 := rfl
  have hX : (fun A U H => (oP A g U H)) A s s.heap := by rw [hAe]; exact hX
  have hP := hX
  have hZ := hP.1
  have hF0 := hP.2.1
  refine lv_aload_n S.x S.b d_Mpr_take_0 rfl (lv_at hl 0 rfl) ?_
  refine lv_dup S.x S.b d_Mpr_take_1 rfl ?_
  refine px_get S k_Mpr hT hw 0 0 10 (v := .int (qf 10)) rfl rfl rfl (by decide) m11_0 d_Mpr_take_2 ?_
  refine lv_iconst (v := 1) S.x S.b d_Mpr_take_5 (by decide) ?_
  refine lv_isub S.x S.b d_Mpr_take_6 ?_
  have lr1 := Int32.le_toInt (qf 10)
  have ur1 := Int32.toInt_lt (qf 10)
  refine lv_topi (fun z2 ez2 => ?_)
  have tz2 : z2.toInt = ((qf 10).toInt - (1 : Int) + 2147483648) % 4294967296 - 2147483648 := by rw [ez2]; exact i_sub (qf 10) 1
  have lz2 := Int32.le_toInt z2
  have uz2 := Int32.toInt_lt z2
  try replace tz2 : z2.toInt = (qf 10).toInt - (1 : Int) := by omega
  refine px_put S k_Mpr hT hw 0 0 10 rfl rfl (by decide) m11_0 rfl rfl rfl (Nat.le_of_ble_eq_true rfl) d_Mpr_take_7 (w' := wd_Mpr cs q qr (fun k => if k = 0 then (some h) else none) (upd qf 10 z2) qa qg) (ps' := [wd_Mpr cs q qr (fun k => if k = 0 then (some h) else none) (upd qf 10 z2) qa qg, wdP cs h r g tf ta pf na ma wa cf ca ef ea xf xa]) rfl rfl (fun H locs hw => ?_)
  refine lv_aload_n S.x S.b d_Mpr_take_10 rfl (lv_at hl 0 rfl) ?_
  refine px_get S k_Mpr hT hw 0 0 9 (v := .ref (qr 9)) rfl rfl rfl (by decide) m10_238 d_Mpr_take_11 ?_
  refine lv_aload_n S.x S.b d_Mpr_take_14 rfl (lv_at hl 0 rfl) ?_
  refine px_get S k_Mpr hT hw 0 0 10 (v := .int z2) rfl rfl rfl (by decide) m11_0 d_Mpr_take_15 ?_
  refine px_iald S hT hw 0 2 (n := 62500) (f := (qa 9)) rfl (ga_Mpr_9 _ _ _ _ _ _ _) (x := z2) (vp_in_iff.mpr (by first | exact oz_b28f4ffe05 tz2 g0 g1 | (constructor <;> omega))) d_Mpr_take_18 ?_
  refine lv_topi (fun z3 ez3 => ?_)
  have lz3 := Int32.le_toInt z3
  have uz3 := Int32.toInt_lt z3
  exact px_iret (v := z3) S hr rfl hlk hAe hw (Nat.le_of_ble_eq_true rfl) (Nat.le_of_ble_eq_true rfl) (⟨(upd qf 10 z2), rfl, (show z2.toInt = (qf 10).toInt - 1 from by first | exact oz_cfe616fd96 tz2 | omega), (show (qf 1).toInt = (qf 1).toInt from rfl), (show (qf 2).toInt = (qf 2).toInt from rfl), (show (qf 3).toInt = (qf 3).toInt from rfl), (show (qf 4).toInt = (qf 4).toInt from rfl), (show (qf 5).toInt = (qf 5).toInt from rfl), (show (qf 6).toInt = (qf 6).toInt from rfl), (show (qf 7).toInt = (qf 7).toInt from rfl), (show (qf 11).toInt = (qf 11).toInt from rfl), (show (qf 12).toInt = (qf 12).toInt from rfl), (show (qf 13).toInt = (qf 13).toInt from rfl), (show (qf 14).toInt = (qf 14).toInt from rfl), (show (qf 21).toInt = (qf 21).toInt from rfl), (show (qf 23).toInt = (qf 23).toInt from rfl), (show (qf 24).toInt = (qf 24).toInt from rfl)⟩) d_Mpr_take_19
abbrev b_Mpr_end : ByteArray := prog_15_method_8_code
def y_Mpr_end : MethodName := ⟨"HomeSystemModel$Process", "end", "(II)V"⟩
theorem d_Mpr_end_0 : decode b_Mpr_end 0 = .ok (.aload_n 0, 1) := by decide +kernel
theorem d_Mpr_end_1 : decode b_Mpr_end 1 = .ok (.iload_n 1, 1) := by decide +kernel
theorem d_Mpr_end_2 : decode b_Mpr_end 2 = .ok (.putfield 48, 3) := by decide +kernel
theorem d_Mpr_end_5 : decode b_Mpr_end 5 = .ok (.aload_n 0, 1) := by decide +kernel
theorem d_Mpr_end_6 : decode b_Mpr_end 6 = .ok (.iload_n 2, 1) := by decide +kernel
theorem d_Mpr_end_7 : decode b_Mpr_end 7 = .ok (.putfield 56, 3) := by decide +kernel
theorem d_Mpr_end_10 : decode b_Mpr_end 10 = .ok (.return_, 1) := by decide +kernel
theorem q_Mpr_end : px_y y_Mpr_end 2 := by unfold px_y; decide +kernel
set_option maxHeartbeats 4000000 in
set_option maxRecDepth 100000 in
theorem c_mr_end (l : Launch) (D : va_G) (cs : Nat → ClassId) (nf : Int) (q : Nat) (qr : Nat → Nat) (qg : Nat → Nat → Option Nat) (qa : Nat → Nat → Int32) (qf : Nat → Int32) (h : Nat) (r : Nat → Nat) (g : Nat → Nat → Option Nat) (tf : Nat → Int32) (ta : Nat → Nat → Int32) (pf : Nat → Int32) (na : Nat → Nat → Int32) (ma : Nat → Nat → Int32) (wa : Nat → Nat → Int32) (cf : Nat → Int32) (ca : Nat → Nat → Int32) (ef : Nat → Int32) (ea : Nat → Nat → Int32) (xf : Nat → Int32) (xa : Nat → Nat → Int32) (p0 p1 : Int32)   : MetV l y_Mpr_end b_Mpr_end 3 D cs 0 0 (0) (0) [.ref q, .int p0, .int p1] [wd_Mpr cs q qr (fun k => if k = 0 then (some h) else none) qf qa qg, wdP cs h r g tf ta pf na ma wa cf ca ef ea xf xa] (oX (fun A U H => (oP A g U H)) [wd_Mpr cs q qr (fun k => if k = 0 then (some h) else none) qf qa qg, wdP cs h r g tf ta pf na ma wa cf ca ef ea xf xa]) (fun ps => ∃ (qf' : Nat → Int32), (ps = [wd_Mpr cs q qr (fun k => if k = 0 then (some h) else none) qf' qa qg, wdP cs h r g tf ta pf na ma wa cf ca ef ea xf xa]) ∧ ((qf' 2).toInt = p0.toInt) ∧ ((qf' 3).toInt = p1.toInt) ∧ ((qf' 1).toInt = (qf 1).toInt) ∧ ((qf' 4).toInt = (qf 4).toInt) ∧ ((qf' 5).toInt = (qf 5).toInt) ∧ ((qf' 6).toInt = (qf 6).toInt) ∧ ((qf' 7).toInt = (qf 7).toInt) ∧ ((qf' 10).toInt = (qf 10).toInt) ∧ ((qf' 11).toInt = (qf 11).toInt) ∧ ((qf' 12).toInt = (qf 12).toInt) ∧ ((qf' 13).toInt = (qf 13).toInt) ∧ ((qf' 14).toInt = (qf 14).toInt) ∧ ((qf' 21).toInt = (qf 21).toInt) ∧ ((qf' 23).toInt = (qf 23).toInt) ∧ ((qf' 24).toInt = (qf 24).toInt)) := by
  refine px_enter (by decide) (Nat.le_of_ble_eq_true rfl) ?_
  intro p e s m below meth c A ls hAe S hr hlk hnm hA hT hX hw hl
  replace hl : lv_has ls 3 [(0, .ref q), (1, .int p0), (2, .int p1)] := hl
  have lp0 := Int32.le_toInt p0
  have up0 := Int32.toInt_lt p0
  have lp1 := Int32.le_toInt p1
  have up1 := Int32.toInt_lt p1
  have hX : (fun A U H => (oP A g U H)) A s s.heap := by rw [hAe]; exact hX
  have hP := hX
  have hZ := hP.1
  have hF0 := hP.2.1
  refine lv_aload_n S.x S.b d_Mpr_end_0 rfl (lv_at hl 0 rfl) ?_
  refine lv_iload_n S.x S.b d_Mpr_end_1 rfl (lv_at hl 1 rfl) ?_
  refine px_put S k_Mpr hT hw 0 0 2 rfl rfl (by decide) m10_225 rfl rfl rfl (Nat.le_of_ble_eq_true rfl) d_Mpr_end_2 (w' := wd_Mpr cs q qr (fun k => if k = 0 then (some h) else none) (upd qf 2 p0) qa qg) (ps' := [wd_Mpr cs q qr (fun k => if k = 0 then (some h) else none) (upd qf 2 p0) qa qg, wdP cs h r g tf ta pf na ma wa cf ca ef ea xf xa]) rfl rfl (fun H locs hw => ?_)
  refine lv_aload_n S.x S.b d_Mpr_end_5 rfl (lv_at hl 0 rfl) ?_
  refine lv_iload_n S.x S.b d_Mpr_end_6 rfl (lv_at hl 2 rfl) ?_
  refine px_put S k_Mpr hT hw 0 0 3 rfl rfl (by decide) m10_227 rfl rfl rfl (Nat.le_of_ble_eq_true rfl) d_Mpr_end_7 (w' := wd_Mpr cs q qr (fun k => if k = 0 then (some h) else none) (upd (upd qf 2 p0) 3 p1) qa qg) (ps' := [wd_Mpr cs q qr (fun k => if k = 0 then (some h) else none) (upd (upd qf 2 p0) 3 p1) qa qg, wdP cs h r g tf ta pf na ma wa cf ca ef ea xf xa]) rfl rfl (fun H locs hw => ?_)
  exact px_vret S hr hlk hAe hw (Nat.le_of_ble_eq_true rfl) (Nat.le_of_ble_eq_true rfl) (⟨(upd (upd qf 2 p0) 3 p1), rfl, (show p0.toInt = p0.toInt from rfl), (show p1.toInt = p1.toInt from rfl), (show (qf 1).toInt = (qf 1).toInt from rfl), (show (qf 4).toInt = (qf 4).toInt from rfl), (show (qf 5).toInt = (qf 5).toInt from rfl), (show (qf 6).toInt = (qf 6).toInt from rfl), (show (qf 7).toInt = (qf 7).toInt from rfl), (show (qf 10).toInt = (qf 10).toInt from rfl), (show (qf 11).toInt = (qf 11).toInt from rfl), (show (qf 12).toInt = (qf 12).toInt from rfl), (show (qf 13).toInt = (qf 13).toInt from rfl), (show (qf 14).toInt = (qf 14).toInt from rfl), (show (qf 21).toInt = (qf 21).toInt from rfl), (show (qf 23).toInt = (qf 23).toInt from rfl), (show (qf 24).toInt = (qf 24).toInt from rfl)⟩) d_Mpr_end_10
