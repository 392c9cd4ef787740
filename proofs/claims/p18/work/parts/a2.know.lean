theorem oz_6170a7c7f1 {a0 a1 a2 : Int} (h0 : a0 = a1 + a2) (h1 : a2 ≤ 4096) : a0 ≤ a1 + 4096 := by omega
theorem oz_36e32de4fa {a0 a1 : Int} (h0 : a0 = a1 + (2 : Int)) : a0 ≤ a1 + 4096 := by omega
theorem oz_08423f1fa4 {a0 a1 : Int} (h0 : a0 = a1 + (2 : Int)) : a0 = a1 + 2 := by omega
theorem m10_48 : Cond.fieldLink "HomeSystemModel$Program" 274 "HomeSystemModel$Program" "knownSymbol" "[I" ∈ AL := AL_10 (List.mem_of_getElem? (i := 48) rfl) rfl
theorem m10_24 : Cond.fieldLink "HomeSystemModel$Program" 249 "HomeSystemModel$Program" "knownWhat" "[I" ∈ AL := AL_10 (List.mem_of_getElem? (i := 24) rfl) rfl
theorem m10_25 : Cond.fieldLink "HomeSystemModel$Program" 252 "HomeSystemModel$Program" "knownValue" "[I" ∈ AL := AL_10 (List.mem_of_getElem? (i := 25) rfl) rfl
theorem m10_26 : Cond.fieldLink "HomeSystemModel$Program" 556 "HomeSystemModel$Program" "scope" "I" ∈ AL := AL_10 (List.mem_of_getElem? (i := 26) rfl) rfl
theorem m12_178 : Cond.methodLink "HomeSystemModel$Program" 559 ⟨"HomeSystemModel$Program", "find", "(II)I"⟩ ∈ AL := AL_12 (List.mem_of_getElem? (i := 178) rfl) rfl
theorem m12_181 : Cond.code ⟨"HomeSystemModel$Program", "find", "(II)I"⟩ prog_16_method_66_code 4 (Option.some FieldType.int) ∈ AL := AL_12 (List.mem_of_getElem? (i := 181) rfl) rfl
theorem ms_11_14 : Cond.selects "HomeSystemModel$Program" ⟨"HomeSystemModel$Program", "find", "(II)I"⟩ ⟨"HomeSystemModel$Program", "find", "(II)I"⟩ ∈ AL := AL_p (q := (⟨"HomeSystemModel$Program", "find", "(II)I"⟩, 69)) (by unfold lw_privs; exact List.mem_append_right _ (List.mem_append_right _ (List.mem_append_right _ (List.mem_append_right _ (List.mem_append_right _ (List.mem_append_right _ (List.mem_append_right _ (List.mem_append_right _ (List.mem_append_right _ (List.mem_append_right _ (List.mem_append_left _ (List.mem_of_getElem? (i := 14) rfl))))))))))))
theorem m12_180 : Cond.instanceMethod ⟨"HomeSystemModel$Program", "find", "(II)I"⟩ ∈ AL := AL_12 (List.mem_of_getElem? (i := 180) rfl) rfl
theorem m12_170 : Cond.methodLink "HomeSystemModel$Program" 565 ⟨"HomeSystemModel$Program", "bad", "(II)V"⟩ ∈ AL := AL_12 (List.mem_of_getElem? (i := 170) rfl) rfl
theorem m12_173 : Cond.code ⟨"HomeSystemModel$Program", "bad", "(II)V"⟩ prog_16_method_63_code 3 (Option.none : Option Jvm.ClassFile.FieldType) ∈ AL := AL_12 (List.mem_of_getElem? (i := 173) rfl) rfl
theorem ms_11_12 : Cond.selects "HomeSystemModel$Program" ⟨"HomeSystemModel$Program", "bad", "(II)V"⟩ ⟨"HomeSystemModel$Program", "bad", "(II)V"⟩ ∈ AL := AL_p (q := (⟨"HomeSystemModel$Program", "bad", "(II)V"⟩, 69)) (by unfold lw_privs; exact List.mem_append_right _ (List.mem_append_right _ (List.mem_append_right _ (List.mem_append_right _ (List.mem_append_right _ (List.mem_append_right _ (List.mem_append_right _ (List.mem_append_right _ (List.mem_append_right _ (List.mem_append_right _ (List.mem_append_left _ (List.mem_of_getElem? (i := 12) rfl))))))))))))
theorem m12_172 : Cond.instanceMethod ⟨"HomeSystemModel$Program", "bad", "(II)V"⟩ ∈ AL := AL_12 (List.mem_of_getElem? (i := 172) rfl) rfl
theorem m10_34 : Cond.fieldLink "HomeSystemModel$Program" 550 "HomeSystemModel$Program" "inFunction" "I" ∈ AL := AL_10 (List.mem_of_getElem? (i := 34) rfl) rfl
theorem m12_182 : Cond.methodLink "HomeSystemModel$Program" 562 ⟨"HomeSystemModel$Program", "isFunction", "(I)Z"⟩ ∈ AL := AL_12 (List.mem_of_getElem? (i := 182) rfl) rfl
theorem m12_185 : Cond.code ⟨"HomeSystemModel$Program", "isFunction", "(I)Z"⟩ prog_16_method_69_code 2 (Option.some FieldType.boolean) ∈ AL := AL_12 (List.mem_of_getElem? (i := 185) rfl) rfl
theorem ms_11_15 : Cond.selects "HomeSystemModel$Program" ⟨"HomeSystemModel$Program", "isFunction", "(I)Z"⟩ ⟨"HomeSystemModel$Program", "isFunction", "(I)Z"⟩ ∈ AL := AL_p (q := (⟨"HomeSystemModel$Program", "isFunction", "(I)Z"⟩, 69)) (by unfold lw_privs; exact List.mem_append_right _ (List.mem_append_right _ (List.mem_append_right _ (List.mem_append_right _ (List.mem_append_right _ (List.mem_append_right _ (List.mem_append_right _ (List.mem_append_right _ (List.mem_append_right _ (List.mem_append_right _ (List.mem_append_left _ (List.mem_of_getElem? (i := 15) rfl))))))))))))
theorem m12_184 : Cond.instanceMethod ⟨"HomeSystemModel$Program", "isFunction", "(I)Z"⟩ ∈ AL := AL_12 (List.mem_of_getElem? (i := 184) rfl) rfl
theorem m10_40 : Cond.fieldLink "HomeSystemModel$Program" 261 "HomeSystemModel$Program" "symbolSort" "[B" ∈ AL := AL_10 (List.mem_of_getElem? (i := 40) rfl) rfl
theorem m10_39 : Cond.fieldLink "HomeSystemModel$Program" 547 "HomeSystemModel$Program" "symbols" "I" ∈ AL := AL_10 (List.mem_of_getElem? (i := 39) rfl) rfl
theorem m10_42 : Cond.fieldLink "HomeSystemModel$Program" 264 "HomeSystemModel$Program" "symbolOfText" "[Z" ∈ AL := AL_10 (List.mem_of_getElem? (i := 42) rfl) rfl
theorem m10_44 : Cond.fieldLink "HomeSystemModel$Program" 268 "HomeSystemModel$Program" "symbolAt" "[I" ∈ AL := AL_10 (List.mem_of_getElem? (i := 44) rfl) rfl
theorem m10_49 : Cond.fieldLink "HomeSystemModel$Program" 553 "HomeSystemModel$Program" "cellsNow" "I" ∈ AL := AL_10 (List.mem_of_getElem? (i := 49) rfl) rfl
theorem m10_46 : Cond.fieldLink "HomeSystemModel$Program" 271 "HomeSystemModel$Program" "symbolSize" "[I" ∈ AL := AL_10 (List.mem_of_getElem? (i := 46) rfl) rfl
/-! rows of booleans -/
section PZ
variable {p : Program} {l : Launch} {e : Env} {R : Room} {s : State} {m : MethodId} {args : Array Value} {below : List Frame} {meth : Method} {c : Code} {H : Heap} {locs : List Loc} {cells slots : Nat} {Q : State → Prop}
variable {cc : ByteArray} {pc nL : Nat} {ls : Array Slot} {rest : List Value} {D : va_G} {A : Nat → Prop} {H0 : Heap} {cs : Nat → ClassId} {ps ps' : List va_W} {w w' : va_W} {a : Nat} {own : String}
theorem px_zald (S : px_S p m c cc nL s args own) (hT : Tb D cs s) (hw : pw D A H0 H locs ps) (i j : Nat) {n : Nat} {f : Nat → Int32} (hi : ps[i]? = some w) (he : w[j]? = some (a, .inl (cs 3, n, .inl f))) {x : Int32} (hin : vp_in x n) (hdg : decode cc pc = .ok (.baload, 1))
    (kk : W p l e R s m args below meth c H locs cells slots Q (F0 m (pc + 1) ls (.int (f x.toNatClampNeg) :: rest))) : W p l e R s m args below meth c H locs cells slots Q (F0 m pc ls (.int x :: .ref a :: rest)) := va_zald S.x S.b hT.1 hw.1 (pp_off ps i + j) 3 (pp_get he ps i hi) rfl hin hdg kk
theorem px_zast (S : px_S p m c cc nL s args own) (hT : Tb D cs s) (hw : pw D A H0 H locs ps) (i j : Nat) {n : Nat} {f : Nat → Int32} {x y : Int32} (hi : ps[i]? = some w) (he : w[j]? = some (a, .inl (cs 3, n, .inl f))) (hin : vp_in x n) (hdg : decode cc pc = .ok (.bastore, 1)) (hww : w.set j (a, .inl (cs 3, n, .inl (upd f x.toNatClampNeg (vp_nar .boolean y)))) = w') (hps : ps.set i w' = ps')
    (kk : ∀ (H1 : Heap) (locs1 : List Loc), pw D A H0 H1 locs1 ps' → W p l e R s m args below meth c H1 locs1 cells slots Q (F0 m (pc + 1) ls rest)) : W p l e R s m args below meth c H locs cells slots Q (F0 m pc ls (.int y :: .int x :: .ref a :: rest)) := by
  have hj : j < w.length := (List.getElem?_eq_some_iff.mp he).1
  refine va_zast S.x S.b hT.1 hw.1 hw.2.1 hw.2.2 (pp_off ps i + j) 3 (pp_get he ps i hi) rfl hin hdg (fun H1 locs1 h1 h2 h3 => kk H1 locs1 ⟨?_, ?_, h3⟩)
  · rw [← hps, ← hww, ← pp_set hj ps i hi]; exact h1
  · rw [← hps, ← hww, ← pp_set hj ps i hi]; exact h2
end PZ
/-! LAYING a symbol, KNOWING a name -/
def LyU (ca ca' : Nat → Nat → Int32) (y sort at_ size : Int32) (tx : Int) : Prop := (∀ k x : Nat, x ≠ y.toNatClampNeg ∨ (k ≠ 49 ∧ k ≠ 50 ∧ k ≠ 51 ∧ k ≠ 52) → ca' k x = ca k x) ∧ (-128 ≤ sort.toInt → sort.toInt ≤ 127 → ca' 49 y.toNatClampNeg = sort) ∧ ca' 51 y.toNatClampNeg = at_ ∧ ca' 52 y.toNatClampNeg = size ∧ (ca' 50 y.toNatClampNeg).toInt = tx
def txo (f : Int) : Int := if f < 0 then 1 else 0
def KwU (ca ca' : Nat → Nat → Int32) (i t what v y : Int32) : Prop := (∀ k x : Nat, x ≠ i.toNatClampNeg ∨ (k ≠ 34 ∧ k ≠ 35 ∧ k ≠ 36 ∧ k ≠ 53) → ca' k x = ca k x) ∧ ca' 34 i.toNatClampNeg = t ∧ ca' 35 i.toNatClampNeg = what ∧ ca' 36 i.toNatClampNeg = v ∧ ca' 53 i.toNatClampNeg = y
theorem up1 {f : Nat → Nat → Int32} {j i k x : Nat} {v : Int32} (h : x ≠ i ∨ k ≠ j) : va_up f j (upd (f j) i v) k x = f k x := by
  rcases h with h | h
  · exact up_far h
  · rw [va_up_n h]
theorem kwu_mk {ca : Nat → Nat → Int32} {i t what v y : Int32} {c1 c2 c3 c4 : Nat → Nat → Int32} (e1 : c1 = va_up ca 53 (upd (ca 53) i.toNatClampNeg y)) (e2 : c2 = va_up c1 34 (upd (c1 34) i.toNatClampNeg t)) (e3 : c3 = va_up c2 35 (upd (c2 35) i.toNatClampNeg what)) (e4 : c4 = va_up c3 36 (upd (c3 36) i.toNatClampNeg v)) : KwU ca c4 i t what v y := by
  subst e1; subst e2; subst e3; subst e4
  refine ⟨fun k x h => ?_, ?_, ?_, ?_, ?_⟩
  · rw [up1 (by omega), up1 (by omega), up1 (by omega), up1 (by omega)]
  · rw [va_up_n (by decide), va_up_n (by decide), va_up_s, pk_us]
  · rw [va_up_n (by decide), va_up_s, pk_us]
  · rw [va_up_s, pk_us]
  · rw [va_up_n (by decide), va_up_n (by decide), va_up_n (by decide), va_up_s, pk_us]
theorem lyu_mk {ca : Nat → Nat → Int32} {y sort z b at_ size : Int32} {tx : Int} (hb : b.toInt = tx) (hz : z = sort.toInt8.toInt32) {c1 c2 c3 c4 : Nat → Nat → Int32} (e1 : c1 = va_up ca 49 (upd (ca 49) y.toNatClampNeg (vp_nar .byte z))) (e2 : c2 = va_up c1 50 (upd (c1 50) y.toNatClampNeg b)) (e3 : c3 = va_up c2 51 (upd (c2 51) y.toNatClampNeg at_)) (e4 : c4 = va_up c3 52 (upd (c3 52) y.toNatClampNeg size)) : LyU ca c4 y sort at_ size tx := by
  subst e1; subst e2; subst e3; subst e4
  refine ⟨fun k x h => ?_, fun h0 h1 => ?_, ?_, ?_, ?_⟩
  · rw [up1 (by omega), up1 (by omega), up1 (by omega), up1 (by omega)]
  · rw [va_up_n (by decide), va_up_n (by decide), va_up_n (by decide), va_up_s, pk_us]
    rw [hz, pk_vb, i8_id h0 h1]
  · rw [va_up_n (by decide), va_up_s, pk_us]
  · rw [va_up_s, pk_us]
  · rw [va_up_n (by decide), va_up_n (by decide), va_up_s, pk_us]; exact hb
abbrev b_Mpg_know : ByteArray := prog_16_method_71_code
def y_Mpg_know : MethodName := ⟨"HomeSystemModel$Program", "know", "(IIII)V"⟩
theorem d_Mpg_know_0 : decode b_Mpg_know 0 = .ok (.aload_n 0, 1) := by decide +kernel
theorem d_Mpg_know_1 : decode b_Mpg_know 1 = .ok (.getfield 274, 3) := by decide +kernel
theorem d_Mpg_know_4 : decode b_Mpg_know 4 = .ok (.aload_n 0, 1) := by decide +kernel
theorem d_Mpg_know_5 : decode b_Mpg_know 5 = .ok (.getfield 528, 3) := by decide +kernel
theorem d_Mpg_know_8 : decode b_Mpg_know 8 = .ok (.iload 4, 2) := by decide +kernel
theorem d_Mpg_know_10 : decode b_Mpg_know 10 = .ok (.iastore, 1) := by decide +kernel
theorem d_Mpg_know_11 : decode b_Mpg_know 11 = .ok (.aload_n 0, 1) := by decide +kernel
theorem d_Mpg_know_12 : decode b_Mpg_know 12 = .ok (.getfield 246, 3) := by decide +kernel
theorem d_Mpg_know_15 : decode b_Mpg_know 15 = .ok (.aload_n 0, 1) := by decide +kernel
theorem d_Mpg_know_16 : decode b_Mpg_know 16 = .ok (.getfield 528, 3) := by decide +kernel
theorem d_Mpg_know_19 : decode b_Mpg_know 19 = .ok (.iload_n 1, 1) := by decide +kernel
theorem d_Mpg_know_20 : decode b_Mpg_know 20 = .ok (.iastore, 1) := by decide +kernel
theorem d_Mpg_know_21 : decode b_Mpg_know 21 = .ok (.aload_n 0, 1) := by decide +kernel
theorem d_Mpg_know_22 : decode b_Mpg_know 22 = .ok (.getfield 249, 3) := by decide +kernel
theorem d_Mpg_know_25 : decode b_Mpg_know 25 = .ok (.aload_n 0, 1) := by decide +kernel
theorem d_Mpg_know_26 : decode b_Mpg_know 26 = .ok (.getfield 528, 3) := by decide +kernel
theorem d_Mpg_know_29 : decode b_Mpg_know 29 = .ok (.iload_n 2, 1) := by decide +kernel
theorem d_Mpg_know_30 : decode b_Mpg_know 30 = .ok (.iastore, 1) := by decide +kernel
theorem d_Mpg_know_31 : decode b_Mpg_know 31 = .ok (.aload_n 0, 1) := by decide +kernel
theorem d_Mpg_know_32 : decode b_Mpg_know 32 = .ok (.getfield 252, 3) := by decide +kernel
theorem d_Mpg_know_35 : decode b_Mpg_know 35 = .ok (.aload_n 0, 1) := by decide +kernel
theorem d_Mpg_know_36 : decode b_Mpg_know 36 = .ok (.getfield 528, 3) := by decide +kernel
theorem d_Mpg_know_39 : decode b_Mpg_know 39 = .ok (.iload_n 3, 1) := by decide +kernel
theorem d_Mpg_know_40 : decode b_Mpg_know 40 = .ok (.iastore, 1) := by decide +kernel
theorem d_Mpg_know_41 : decode b_Mpg_know 41 = .ok (.aload_n 0, 1) := by decide +kernel
theorem d_Mpg_know_42 : decode b_Mpg_know 42 = .ok (.dup, 1) := by decide +kernel
theorem d_Mpg_know_43 : decode b_Mpg_know 43 = .ok (.getfield 528, 3) := by decide +kernel
theorem d_Mpg_know_46 : decode b_Mpg_know 46 = .ok (.iconst 1, 1) := by decide +kernel
theorem d_Mpg_know_47 : decode b_Mpg_know 47 = .ok (.iadd, 1) := by decide +kernel
theorem d_Mpg_know_48 : decode b_Mpg_know 48 = .ok (.putfield 528, 3) := by decide +kernel
theorem d_Mpg_know_51 : decode b_Mpg_know 51 = .ok (.return_, 1) := by decide +kernel
theorem q_Mpg_know : px_y y_Mpg_know 4 := by unfold px_y; decide +kernel
set_option maxHeartbeats 4000000 in
set_option maxRecDepth 100000 in
theorem c_mp_know (l : Launch) (D : va_G) (cs : Nat → ClassId) (h : Nat) (r : Nat → Nat) (g : Nat → Nat → Option Nat) (tf : Nat → Int32) (ta : Nat → Nat → Int32) (pf : Nat → Int32) (na : Nat → Nat → Int32) (ma : Nat → Nat → Int32) (wa : Nat → Nat → Int32) (ef : Nat → Int32) (ea : Nat → Nat → Int32) (xf : Nat → Int32) (xa : Nat → Nat → Int32) (cf : Nat → Int32) (ca : Nat → Nat → Int32) (p0 p1 p2 p3 : Int32)  (g0 : 0 ≤ (cf 33).toInt) (g1 : (cf 33).toInt < 1100) (htk : TkI tf ta) : MetV l y_Mpg_know b_Mpg_know 5 D cs 0 0 (0) (0) [.ref h, .int p0, .int p1, .int p2, .int p3] [wdP cs h r g tf ta pf na ma wa cf ca ef ea xf xa] (fun _ => True) (fun ps => ∃ (cf' : Nat → Int32) (ca' : Nat → Nat → Int32), (ps = [wdP cs h r g tf ta pf na ma wa cf' ca' ef ea xf xa]) ∧ ((cf' 33).toInt = (cf 33).toInt + 1) ∧ ((cf' 30).toInt = (cf 30).toInt) ∧ ((cf' 31).toInt = (cf 31).toInt) ∧ ((cf' 37).toInt = (cf 37).toInt) ∧ ((cf' 38).toInt = (cf 38).toInt) ∧ ((cf' 41).toInt = (cf 41).toInt) ∧ ((cf' 42).toInt = (cf 42).toInt) ∧ ((cf' 43).toInt = (cf 43).toInt) ∧ ((cf' 44).toInt = (cf 44).toInt) ∧ ((cf' 45).toInt = (cf 45).toInt) ∧ ((cf' 46).toInt = (cf 46).toInt) ∧ ((cf' 47).toInt = (cf 47).toInt) ∧ ((cf' 48).toInt = (cf 48).toInt) ∧ ((cf' 54).toInt = (cf 54).toInt) ∧ ((cf' 55).toInt = (cf 55).toInt) ∧ ((cf' 57).toInt = (cf 57).toInt) ∧ ((cf' 58).toInt = (cf 58).toInt) ∧ ((cf' 59).toInt = (cf 59).toInt) ∧ (KwU ca ca' (cf 33) p0 p1 p2 p3) ∧ (R_mp_know p0 p1 p2 p3 cf ca cf' ca')) := by
  refine px_enter (by decide) (Nat.le_of_ble_eq_true rfl) ?_
  intro p e s m below meth c A ls hAe S hr hlk hnm hA hT hX hw hl
  have hl : lv_has ls 5 [(0, .ref h), (1, .int p0), (2, .int p1), (3, .int p2), (4, .int p3)] := hl
  have lp0 := Int32.le_toInt p0
  have up0 := Int32.toInt_lt p0
  have lp1 := Int32.le_toInt p1
  have up1 := Int32.toInt_lt p1
  have lp2 := Int32.le_toInt p2
  have up2 := Int32.toInt_lt p2
  have lp3 := Int32.le_toInt p3
  have up3 := Int32.toInt_lt p3
  have cst1 : (1 : Int32).toInt = 1 := rfl
  refine lv_aload_n S.x S.b d_Mpg_know_0 rfl (lv_at hl 0 rfl) ?_
  refine px_get S k_Mpg hT hw 0 0 53 (v := .ref (r 53)) rfl rfl rfl (by decide) m10_48 d_Mpg_know_1 ?_
  refine lv_aload_n S.x S.b d_Mpg_know_4 rfl (lv_at hl 0 rfl) ?_
  refine px_get S k_Mpg hT hw 0 0 33 (v := .int (cf 33)) rfl rfl rfl (by decide) m10_22 d_Mpg_know_5 ?_
  refine lv_iload S.x S.b d_Mpg_know_8 (lv_at hl 4 rfl) ?_
  refine px_iast S hT hw 0 32 (n := 1100) (f := (ca 53)) (x := (cf 33)) (y := p3) rfl gp_53 (vp_in_iff.mpr (by constructor <;> omega)) d_Mpg_know_10 (w' := wdP cs h r g tf ta pf na ma wa cf (va_up ca 53 (upd (ca 53) (cf 33).toNatClampNeg p3)) ef ea xf xa) (ps' := [wdP cs h r g tf ta pf na ma wa cf (va_up ca 53 (upd (ca 53) (cf 33).toNatClampNeg p3)) ef ea xf xa]) sp_53 rfl (fun H locs hw => ?_)
  refine lv_aload_n S.x S.b d_Mpg_know_11 rfl (lv_at hl 0 rfl) ?_
  refine px_get S k_Mpg hT hw 0 0 34 (v := .ref (r 34)) rfl rfl rfl (by decide) m10_23 d_Mpg_know_12 ?_
  refine lv_aload_n S.x S.b d_Mpg_know_15 rfl (lv_at hl 0 rfl) ?_
  refine px_get S k_Mpg hT hw 0 0 33 (v := .int (cf 33)) rfl rfl rfl (by decide) m10_22 d_Mpg_know_16 ?_
  refine lv_iload_n S.x S.b d_Mpg_know_19 rfl (lv_at hl 1 rfl) ?_
  refine px_iast S hT hw 0 23 (n := 1100) (f := ((va_up ca 53 (upd (ca 53) (cf 33).toNatClampNeg p3)) 34)) (x := (cf 33)) (y := p0) rfl gp_34 (vp_in_iff.mpr (by constructor <;> omega)) d_Mpg_know_20 (w' := wdP cs h r g tf ta pf na ma wa cf (va_up (va_up ca 53 (upd (ca 53) (cf 33).toNatClampNeg p3)) 34 (upd ((va_up ca 53 (upd (ca 53) (cf 33).toNatClampNeg p3)) 34) (cf 33).toNatClampNeg p0)) ef ea xf xa) (ps' := [wdP cs h r g tf ta pf na ma wa cf (va_up (va_up ca 53 (upd (ca 53) (cf 33).toNatClampNeg p3)) 34 (upd ((va_up ca 53 (upd (ca 53) (cf 33).toNatClampNeg p3)) 34) (cf 33).toNatClampNeg p0)) ef ea xf xa]) sp_34 rfl (fun H locs hw => ?_)
  refine lv_aload_n S.x S.b d_Mpg_know_21 rfl (lv_at hl 0 rfl) ?_
  refine px_get S k_Mpg hT hw 0 0 35 (v := .ref (r 35)) rfl rfl rfl (by decide) m10_24 d_Mpg_know_22 ?_
  refine lv_aload_n S.x S.b d_Mpg_know_25 rfl (lv_at hl 0 rfl) ?_
  refine px_get S k_Mpg hT hw 0 0 33 (v := .int (cf 33)) rfl rfl rfl (by decide) m10_22 d_Mpg_know_26 ?_
  refine lv_iload_n S.x S.b d_Mpg_know_29 rfl (lv_at hl 2 rfl) ?_
  refine px_iast S hT hw 0 24 (n := 1100) (f := ((va_up (va_up ca 53 (upd (ca 53) (cf 33).toNatClampNeg p3)) 34 (upd ((va_up ca 53 (upd (ca 53) (cf 33).toNatClampNeg p3)) 34) (cf 33).toNatClampNeg p0)) 35)) (x := (cf 33)) (y := p1) rfl gp_35 (vp_in_iff.mpr (by constructor <;> omega)) d_Mpg_know_30 (w' := wdP cs h r g tf ta pf na ma wa cf (va_up (va_up (va_up ca 53 (upd (ca 53) (cf 33).toNatClampNeg p3)) 34 (upd ((va_up ca 53 (upd (ca 53) (cf 33).toNatClampNeg p3)) 34) (cf 33).toNatClampNeg p0)) 35 (upd ((va_up (va_up ca 53 (upd (ca 53) (cf 33).toNatClampNeg p3)) 34 (upd ((va_up ca 53 (upd (ca 53) (cf 33).toNatClampNeg p3)) 34) (cf 33).toNatClampNeg p0)) 35) (cf 33).toNatClampNeg p1)) ef ea xf xa) (ps' := [wdP cs h r g tf ta pf na ma wa cf (va_up (va_up (va_up ca 53 (upd (ca 53) (cf 33).toNatClampNeg p3)) 34 (upd ((va_up ca 53 (upd (ca 53) (cf 33).toNatClampNeg p3)) 34) (cf 33).toNatClampNeg p0)) 35 (upd ((va_up (va_up ca 53 (upd (ca 53) (cf 33).toNatClampNeg p3)) 34 (upd ((va_up ca 53 (upd (ca 53) (cf 33).toNatClampNeg p3)) 34) (cf 33).toNatClampNeg p0)) 35) (cf 33).toNatClampNeg p1)) ef ea xf xa]) sp_35 rfl (fun H locs hw => ?_)
  refine lv_aload_n S.x S.b d_Mpg_know_31 rfl (lv_at hl 0 rfl) ?_
  refine px_get S k_Mpg hT hw 0 0 36 (v := .ref (r 36)) rfl rfl rfl (by decide) m10_25 d_Mpg_know_32 ?_
  refine lv_aload_n S.x S.b d_Mpg_know_35 rfl (lv_at hl 0 rfl) ?_
  refine px_get S k_Mpg hT hw 0 0 33 (v := .int (cf 33)) rfl rfl rfl (by decide) m10_22 d_Mpg_know_36 ?_
  refine lv_iload_n S.x S.b d_Mpg_know_39 rfl (lv_at hl 3 rfl) ?_
  refine px_iast S hT hw 0 25 (n := 1100) (f := ((va_up (va_up (va_up ca 53 (upd (ca 53) (cf 33).toNatClampNeg p3)) 34 (upd ((va_up ca 53 (upd (ca 53) (cf 33).toNatClampNeg p3)) 34) (cf 33).toNatClampNeg p0)) 35 (upd ((va_up (va_up ca 53 (upd (ca 53) (cf 33).toNatClampNeg p3)) 34 (upd ((va_up ca 53 (upd (ca 53) (cf 33).toNatClampNeg p3)) 34) (cf 33).toNatClampNeg p0)) 35) (cf 33).toNatClampNeg p1)) 36)) (x := (cf 33)) (y := p2) rfl gp_36 (vp_in_iff.mpr (by constructor <;> omega)) d_Mpg_know_40 (w' := wdP cs h r g tf ta pf na ma wa cf (va_up (va_up (va_up (va_up ca 53 (upd (ca 53) (cf 33).toNatClampNeg p3)) 34 (upd ((va_up ca 53 (upd (ca 53) (cf 33).toNatClampNeg p3)) 34) (cf 33).toNatClampNeg p0)) 35 (upd ((va_up (va_up ca 53 (upd (ca 53) (cf 33).toNatClampNeg p3)) 34 (upd ((va_up ca 53 (upd (ca 53) (cf 33).toNatClampNeg p3)) 34) (cf 33).toNatClampNeg p0)) 35) (cf 33).toNatClampNeg p1)) 36 (upd ((va_up (va_up (va_up ca 53 (upd (ca 53) (cf 33).toNatClampNeg p3)) 34 (upd ((va_up ca 53 (upd (ca 53) (cf 33).toNatClampNeg p3)) 34) (cf 33).toNatClampNeg p0)) 35 (upd ((va_up (va_up ca 53 (upd (ca 53) (cf 33).toNatClampNeg p3)) 34 (upd ((va_up ca 53 (upd (ca 53) (cf 33).toNatClampNeg p3)) 34) (cf 33).toNatClampNeg p0)) 35) (cf 33).toNatClampNeg p1)) 36) (cf 33).toNatClampNeg p2)) ef ea xf xa) (ps' := [wdP cs h r g tf ta pf na ma wa cf (va_up (va_up (va_up (va_up ca 53 (upd (ca 53) (cf 33).toNatClampNeg p3)) 34 (upd ((va_up ca 53 (upd (ca 53) (cf 33).toNatClampNeg p3)) 34) (cf 33).toNatClampNeg p0)) 35 (upd ((va_up (va_up ca 53 (upd (ca 53) (cf 33).toNatClampNeg p3)) 34 (upd ((va_up ca 53 (upd (ca 53) (cf 33).toNatClampNeg p3)) 34) (cf 33).toNatClampNeg p0)) 35) (cf 33).toNatClampNeg p1)) 36 (upd ((va_up (va_up (va_up ca 53 (upd (ca 53) (cf 33).toNatClampNeg p3)) 34 (upd ((va_up ca 53 (upd (ca 53) (cf 33).toNatClampNeg p3)) 34) (cf 33).toNatClampNeg p0)) 35 (upd ((va_up (va_up ca 53 (upd (ca 53) (cf 33).toNatClampNeg p3)) 34 (upd ((va_up ca 53 (upd (ca 53) (cf 33).toNatClampNeg p3)) 34) (cf 33).toNatClampNeg p0)) 35) (cf 33).toNatClampNeg p1)) 36) (cf 33).toNatClampNeg p2)) ef ea xf xa]) sp_36 rfl (fun H locs hw => ?_)
  refine lv_aload_n S.x S.b d_Mpg_know_41 rfl (lv_at hl 0 rfl) ?_
  refine lv_dup S.x S.b d_Mpg_know_42 rfl ?_
  refine px_get S k_Mpg hT hw 0 0 33 (v := .int (cf 33)) rfl rfl rfl (by decide) m10_22 d_Mpg_know_43 ?_
  refine lv_iconst (v := 1) S.x S.b d_Mpg_know_46 (by decide) ?_
  refine lv_iadd S.x S.b d_Mpg_know_47 ?_
  have lr1 := Int32.le_toInt (cf 33)
  have ur1 := Int32.toInt_lt (cf 33)
  refine lv_topi (fun z2 ez2 => ?_)
  have tz2 : z2.toInt = ((cf 33).toInt + (1 : Int) + 2147483648) % 4294967296 - 2147483648 := by rw [ez2]; exact i_add (cf 33) 1
  have lz2 := Int32.le_toInt z2
  have uz2 := Int32.toInt_lt z2
  try replace tz2 : z2.toInt = (cf 33).toInt + (1 : Int) := by omega
  refine px_put S k_Mpg hT hw 0 0 33 rfl rfl (by decide) m10_22 rfl rfl rfl (Nat.le_of_ble_eq_true rfl) d_Mpg_know_48 (w' := wdP cs h r g tf ta pf na ma wa (upd cf 33 z2) (va_up (va_up (va_up (va_up ca 53 (upd (ca 53) (cf 33).toNatClampNeg p3)) 34 (upd ((va_up ca 53 (upd (ca 53) (cf 33).toNatClampNeg p3)) 34) (cf 33).toNatClampNeg p0)) 35 (upd ((va_up (va_up ca 53 (upd (ca 53) (cf 33).toNatClampNeg p3)) 34 (upd ((va_up ca 53 (upd (ca 53) (cf 33).toNatClampNeg p3)) 34) (cf 33).toNatClampNeg p0)) 35) (cf 33).toNatClampNeg p1)) 36 (upd ((va_up (va_up (va_up ca 53 (upd (ca 53) (cf 33).toNatClampNeg p3)) 34 (upd ((va_up ca 53 (upd (ca 53) (cf 33).toNatClampNeg p3)) 34) (cf 33).toNatClampNeg p0)) 35 (upd ((va_up (va_up ca 53 (upd (ca 53) (cf 33).toNatClampNeg p3)) 34 (upd ((va_up ca 53 (upd (ca 53) (cf 33).toNatClampNeg p3)) 34) (cf 33).toNatClampNeg p0)) 35) (cf 33).toNatClampNeg p1)) 36) (cf 33).toNatClampNeg p2)) ef ea xf xa) (ps' := [wdP cs h r g tf ta pf na ma wa (upd cf 33 z2) (va_up (va_up (va_up (va_up ca 53 (upd (ca 53) (cf 33).toNatClampNeg p3)) 34 (upd ((va_up ca 53 (upd (ca 53) (cf 33).toNatClampNeg p3)) 34) (cf 33).toNatClampNeg p0)) 35 (upd ((va_up (va_up ca 53 (upd (ca 53) (cf 33).toNatClampNeg p3)) 34 (upd ((va_up ca 53 (upd (ca 53) (cf 33).toNatClampNeg p3)) 34) (cf 33).toNatClampNeg p0)) 35) (cf 33).toNatClampNeg p1)) 36 (upd ((va_up (va_up (va_up ca 53 (upd (ca 53) (cf 33).toNatClampNeg p3)) 34 (upd ((va_up ca 53 (upd (ca 53) (cf 33).toNatClampNeg p3)) 34) (cf 33).toNatClampNeg p0)) 35 (upd ((va_up (va_up ca 53 (upd (ca 53) (cf 33).toNatClampNeg p3)) 34 (upd ((va_up ca 53 (upd (ca 53) (cf 33).toNatClampNeg p3)) 34) (cf 33).toNatClampNeg p0)) 35) (cf 33).toNatClampNeg p1)) 36) (cf 33).toNatClampNeg p2)) ef ea xf xa]) rfl rfl (fun H locs hw => ?_)
  exact px_vret S hr hlk hAe hw (Nat.le_of_ble_eq_true rfl) (Nat.le_of_ble_eq_true rfl) (⟨(upd cf 33 z2), (va_up (va_up (va_up (va_up ca 53 (upd (ca 53) (cf 33).toNatClampNeg p3)) 34 (upd ((va_up ca 53 (upd (ca 53) (cf 33).toNatClampNeg p3)) 34) (cf 33).toNatClampNeg p0)) 35 (upd ((va_up (va_up ca 53 (upd (ca 53) (cf 33).toNatClampNeg p3)) 34 (upd ((va_up ca 53 (upd (ca 53) (cf 33).toNatClampNeg p3)) 34) (cf 33).toNatClampNeg p0)) 35) (cf 33).toNatClampNeg p1)) 36 (upd ((va_up (va_up (va_up ca 53 (upd (ca 53) (cf 33).toNatClampNeg p3)) 34 (upd ((va_up ca 53 (upd (ca 53) (cf 33).toNatClampNeg p3)) 34) (cf 33).toNatClampNeg p0)) 35 (upd ((va_up (va_up ca 53 (upd (ca 53) (cf 33).toNatClampNeg p3)) 34 (upd ((va_up ca 53 (upd (ca 53) (cf 33).toNatClampNeg p3)) 34) (cf 33).toNatClampNeg p0)) 35) (cf 33).toNatClampNeg p1)) 36) (cf 33).toNatClampNeg p2)), rfl, (show z2.toInt = (cf 33).toInt + 1 from by first | exact oz_037caa6b79 tz2 | omega), (show (cf 30).toInt = (cf 30).toInt from rfl), (show (cf 31).toInt = (cf 31).toInt from rfl), (show (cf 37).toInt = (cf 37).toInt from rfl), (show (cf 38).toInt = (cf 38).toInt from rfl), (show (cf 41).toInt = (cf 41).toInt from rfl), (show (cf 42).toInt = (cf 42).toInt from rfl), (show (cf 43).toInt = (cf 43).toInt from rfl), (show (cf 44).toInt = (cf 44).toInt from rfl), (show (cf 45).toInt = (cf 45).toInt from rfl), (show (cf 46).toInt = (cf 46).toInt from rfl), (show (cf 47).toInt = (cf 47).toInt from rfl), (show (cf 48).toInt = (cf 48).toInt from rfl), (show (cf 54).toInt = (cf 54).toInt from rfl), (show (cf 55).toInt = (cf 55).toInt from rfl), (show (cf 57).toInt = (cf 57).toInt from rfl), (show (cf 58).toInt = (cf 58).toInt from rfl), (show (cf 59).toInt = (cf 59).toInt from rfl), (show KwU ca (va_up (va_up (va_up (va_up ca 53 (upd (ca 53) (cf 33).toNatClampNeg p3)) 34 (upd ((va_up ca 53 (upd (ca 53) (cf 33).toNatClampNeg p3)) 34) (cf 33).toNatClampNeg p0)) 35 (upd ((va_up (va_up ca 53 (upd (ca 53) (cf 33).toNatClampNeg p3)) 34 (upd ((va_up ca 53 (upd (ca 53) (cf 33).toNatClampNeg p3)) 34) (cf 33).toNatClampNeg p0)) 35) (cf 33).toNatClampNeg p1)) 36 (upd ((va_up (va_up (va_up ca 53 (upd (ca 53) (cf 33).toNatClampNeg p3)) 34 (upd ((va_up ca 53 (upd (ca 53) (cf 33).toNatClampNeg p3)) 34) (cf 33).toNatClampNeg p0)) 35 (upd ((va_up (va_up ca 53 (upd (ca 53) (cf 33).toNatClampNeg p3)) 34 (upd ((va_up ca 53 (upd (ca 53) (cf 33).toNatClampNeg p3)) 34) (cf 33).toNatClampNeg p0)) 35) (cf 33).toNatClampNeg p1)) 36) (cf 33).toNatClampNeg p2)) (cf 33) p0 p1 p2 p3 from (kwu_mk rfl rfl rfl rfl)), (show R_mp_know p0 p1 p2 p3 cf ca (upd cf 33 z2) (va_up (va_up (va_up (va_up ca 53 (upd (ca 53) (cf 33).toNatClampNeg p3)) 34 (upd ((va_up ca 53 (upd (ca 53) (cf 33).toNatClampNeg p3)) 34) (cf 33).toNatClampNeg p0)) 35 (upd ((va_up (va_up ca 53 (upd (ca 53) (cf 33).toNatClampNeg p3)) 34 (upd ((va_up ca 53 (upd (ca 53) (cf 33).toNatClampNeg p3)) 34) (cf 33).toNatClampNeg p0)) 35) (cf 33).toNatClampNeg p1)) 36 (upd ((va_up (va_up (va_up ca 53 (upd (ca 53) (cf 33).toNatClampNeg p3)) 34 (upd ((va_up ca 53 (upd (ca 53) (cf 33).toNatClampNeg p3)) 34) (cf 33).toNatClampNeg p0)) 35 (upd ((va_up (va_up ca 53 (upd (ca 53) (cf 33).toNatClampNeg p3)) 34 (upd ((va_up ca 53 (upd (ca 53) (cf 33).toNatClampNeg p3)) 34) (cf 33).toNatClampNeg p0)) 35) (cf 33).toNatClampNeg p1)) 36) (cf 33).toNatClampNeg p2)) from (Or.inl ⟨z2, ez2, rfl, rfl⟩))⟩) d_Mpg_know_51
abbrev b_Mpg_leave : ByteArray := prog_16_method_89_code
def y_Mpg_leave : MethodName := ⟨"HomeSystemModel$Program", "leave", "(II)V"⟩
theorem d_Mpg_leave_0 : decode b_Mpg_leave 0 = .ok (.aload_n 0, 1) := by decide +kernel
theorem d_Mpg_leave_1 : decode b_Mpg_leave 1 = .ok (.iload_n 1, 1) := by decide +kernel
theorem d_Mpg_leave_2 : decode b_Mpg_leave 2 = .ok (.putfield 528, 3) := by decide +kernel
theorem d_Mpg_leave_5 : decode b_Mpg_leave 5 = .ok (.aload_n 0, 1) := by decide +kernel
theorem d_Mpg_leave_6 : decode b_Mpg_leave 6 = .ok (.iload_n 2, 1) := by decide +kernel
theorem d_Mpg_leave_7 : decode b_Mpg_leave 7 = .ok (.putfield 556, 3) := by decide +kernel
theorem d_Mpg_leave_10 : decode b_Mpg_leave 10 = .ok (.return_, 1) := by decide +kernel
theorem q_Mpg_leave : px_y y_Mpg_leave 2 := by unfold px_y; decide +kernel
set_option maxHeartbeats 4000000 in
set_option maxRecDepth 100000 in
theorem c_mp_leave (l : Launch) (D : va_G) (cs : Nat → ClassId) (h : Nat) (r : Nat → Nat) (g : Nat → Nat → Option Nat) (tf : Nat → Int32) (ta : Nat → Nat → Int32) (pf : Nat → Int32) (na : Nat → Nat → Int32) (ma : Nat → Nat → Int32) (wa : Nat → Nat → Int32) (ca : Nat → Nat → Int32) (ef : Nat → Int32) (ea : Nat → Nat → Int32) (xf : Nat → Int32) (xa : Nat → Nat → Int32) (cf : Nat → Int32) (p0 p1 : Int32)  (htk : TkI tf ta) : MetV l y_Mpg_leave b_Mpg_leave 3 D cs 0 0 (0) (0) [.ref h, .int p0, .int p1] [wdP cs h r g tf ta pf na ma wa cf ca ef ea xf xa] (fun _ => True) (fun ps => ∃ (cf' : Nat → Int32), (ps = [wdP cs h r g tf ta pf na ma wa cf' ca ef ea xf xa]) ∧ ((cf' 33).toInt = p0.toInt) ∧ ((cf' 37).toInt = p1.toInt) ∧ ((cf' 30).toInt = (cf 30).toInt) ∧ ((cf' 31).toInt = (cf 31).toInt) ∧ ((cf' 38).toInt = (cf 38).toInt) ∧ ((cf' 41).toInt = (cf 41).toInt) ∧ ((cf' 42).toInt = (cf 42).toInt) ∧ ((cf' 43).toInt = (cf 43).toInt) ∧ ((cf' 44).toInt = (cf 44).toInt) ∧ ((cf' 45).toInt = (cf 45).toInt) ∧ ((cf' 46).toInt = (cf 46).toInt) ∧ ((cf' 47).toInt = (cf 47).toInt) ∧ ((cf' 48).toInt = (cf 48).toInt) ∧ ((cf' 54).toInt = (cf 54).toInt) ∧ ((cf' 55).toInt = (cf 55).toInt) ∧ ((cf' 57).toInt = (cf 57).toInt) ∧ ((cf' 58).toInt = (cf 58).toInt) ∧ ((cf' 59).toInt = (cf 59).toInt) ∧ (R_mp_leave p0 p1 cf cf')) := by
  refine px_enter (by decide) (Nat.le_of_ble_eq_true rfl) ?_
  intro p e s m below meth c A ls hAe S hr hlk hnm hA hT hX hw hl
  have hl : lv_has ls 3 [(0, .ref h), (1, .int p0), (2, .int p1)] := hl
  have lp0 := Int32.le_toInt p0
  have up0 := Int32.toInt_lt p0
  have lp1 := Int32.le_toInt p1
  have up1 := Int32.toInt_lt p1
  refine lv_aload_n S.x S.b d_Mpg_leave_0 rfl (lv_at hl 0 rfl) ?_
  refine lv_iload_n S.x S.b d_Mpg_leave_1 rfl (lv_at hl 1 rfl) ?_
  refine px_put S k_Mpg hT hw 0 0 33 rfl rfl (by decide) m10_22 rfl rfl rfl (Nat.le_of_ble_eq_true rfl) d_Mpg_leave_2 (w' := wdP cs h r g tf ta pf na ma wa (upd cf 33 p0) ca ef ea xf xa) (ps' := [wdP cs h r g tf ta pf na ma wa (upd cf 33 p0) ca ef ea xf xa]) rfl rfl (fun H locs hw => ?_)
  refine lv_aload_n S.x S.b d_Mpg_leave_5 rfl (lv_at hl 0 rfl) ?_
  refine lv_iload_n S.x S.b d_Mpg_leave_6 rfl (lv_at hl 2 rfl) ?_
  refine px_put S k_Mpg hT hw 0 0 37 rfl rfl (by decide) m10_26 rfl rfl rfl (Nat.le_of_ble_eq_true rfl) d_Mpg_leave_7 (w' := wdP cs h r g tf ta pf na ma wa (upd (upd cf 33 p0) 37 p1) ca ef ea xf xa) (ps' := [wdP cs h r g tf ta pf na ma wa (upd (upd cf 33 p0) 37 p1) ca ef ea xf xa]) rfl rfl (fun H locs hw => ?_)
  exact px_vret S hr hlk hAe hw (Nat.le_of_ble_eq_true rfl) (Nat.le_of_ble_eq_true rfl) (⟨(upd (upd cf 33 p0) 37 p1), rfl, (show p0.toInt = p0.toInt from rfl), (show p1.toInt = p1.toInt from rfl), (show (cf 30).toInt = (cf 30).toInt from rfl), (show (cf 31).toInt = (cf 31).toInt from rfl), (show (cf 38).toInt = (cf 38).toInt from rfl), (show (cf 41).toInt = (cf 41).toInt from rfl), (show (cf 42).toInt = (cf 42).toInt from rfl), (show (cf 43).toInt = (cf 43).toInt from rfl), (show (cf 44).toInt = (cf 44).toInt from rfl), (show (cf 45).toInt = (cf 45).toInt from rfl), (show (cf 46).toInt = (cf 46).toInt from rfl), (show (cf 47).toInt = (cf 47).toInt from rfl), (show (cf 48).toInt = (cf 48).toInt from rfl), (show (cf 54).toInt = (cf 54).toInt from rfl), (show (cf 55).toInt = (cf 55).toInt from rfl), (show (cf 57).toInt = (cf 57).toInt from rfl), (show (cf 58).toInt = (cf 58).toInt from rfl), (show (cf 59).toInt = (cf 59).toInt from rfl), (show R_mp_leave p0 p1 cf (upd (upd cf 33 p0) 37 p1) from (Or.inl rfl))⟩) d_Mpg_leave_10
abbrev b_Mpg_checkNew : ByteArray := prog_16_method_72_code
def y_Mpg_checkNew : MethodName := ⟨"HomeSystemModel$Program", "checkNew", "(I)V"⟩
theorem d_Mpg_checkNew_0 : decode b_Mpg_checkNew 0 = .ok (.aload_n 0, 1) := by decide +kernel
theorem d_Mpg_checkNew_1 : decode b_Mpg_checkNew 1 = .ok (.iload_n 1, 1) := by decide +kernel
theorem d_Mpg_checkNew_2 : decode b_Mpg_checkNew 2 = .ok (.aload_n 0, 1) := by decide +kernel
theorem d_Mpg_checkNew_3 : decode b_Mpg_checkNew 3 = .ok (.getfield 556, 3) := by decide +kernel
theorem d_Mpg_checkNew_6 : decode b_Mpg_checkNew 6 = .ok (.invokevirtual 559, 3) := by decide +kernel
theorem d_Mpg_checkNew_9 : decode b_Mpg_checkNew 9 = .ok (.ifCond .ge 18, 3) := by decide +kernel
theorem d_Mpg_checkNew_12 : decode b_Mpg_checkNew 12 = .ok (.aload_n 0, 1) := by decide +kernel
theorem d_Mpg_checkNew_13 : decode b_Mpg_checkNew 13 = .ok (.getfield 550, 3) := by decide +kernel
theorem d_Mpg_checkNew_16 : decode b_Mpg_checkNew 16 = .ok (.ifCond .ge 15, 3) := by decide +kernel
theorem d_Mpg_checkNew_19 : decode b_Mpg_checkNew 19 = .ok (.aload_n 0, 1) := by decide +kernel
theorem d_Mpg_checkNew_20 : decode b_Mpg_checkNew 20 = .ok (.iload_n 1, 1) := by decide +kernel
theorem d_Mpg_checkNew_21 : decode b_Mpg_checkNew 21 = .ok (.invokevirtual 562, 3) := by decide +kernel
theorem d_Mpg_checkNew_24 : decode b_Mpg_checkNew 24 = .ok (.ifCond .eq 7, 3) := by decide +kernel
theorem d_Mpg_checkNew_27 : decode b_Mpg_checkNew 27 = .ok (.iconst 1, 1) := by decide +kernel
theorem d_Mpg_checkNew_28 : decode b_Mpg_checkNew 28 = .ok (.goto 4, 3) := by decide +kernel
theorem d_Mpg_checkNew_31 : decode b_Mpg_checkNew 31 = .ok (.iconst 0, 1) := by decide +kernel
theorem d_Mpg_checkNew_32 : decode b_Mpg_checkNew 32 = .ok (.istore_n 2, 1) := by decide +kernel
theorem d_Mpg_checkNew_33 : decode b_Mpg_checkNew 33 = .ok (.iload_n 2, 1) := by decide +kernel
theorem d_Mpg_checkNew_34 : decode b_Mpg_checkNew 34 = .ok (.ifCond .eq 9, 3) := by decide +kernel
theorem d_Mpg_checkNew_37 : decode b_Mpg_checkNew 37 = .ok (.aload_n 0, 1) := by decide +kernel
theorem d_Mpg_checkNew_38 : decode b_Mpg_checkNew 38 = .ok (.iconst 1, 1) := by decide +kernel
theorem d_Mpg_checkNew_39 : decode b_Mpg_checkNew 39 = .ok (.iload_n 1, 1) := by decide +kernel
theorem d_Mpg_checkNew_40 : decode b_Mpg_checkNew 40 = .ok (.invokevirtual 565, 3) := by decide +kernel
theorem d_Mpg_checkNew_43 : decode b_Mpg_checkNew 43 = .ok (.return_, 1) := by decide +kernel
theorem q_Mpg_checkNew : px_y y_Mpg_checkNew 1 := by unfold px_y; decide +kernel
set_option maxHeartbeats 4000000 in
set_option maxRecDepth 100000 in
theorem c_mp_checkNew (l : Launch) (D : va_G) (cs : Nat → ClassId) (h : Nat) (r : Nat → Nat) (g : Nat → Nat → Option Nat) (tf : Nat → Int32) (ta : Nat → Nat → Int32) (pf : Nat → Int32) (na : Nat → Nat → Int32) (ma : Nat → Nat → Int32) (wa : Nat → Nat → Int32) (ca : Nat → Nat → Int32) (ef : Nat → Int32) (ea : Nat → Nat → Int32) (xf : Nat → Int32) (xa : Nat → Nat → Int32) (cf : Nat → Int32) (p0 : Int32)  (g0 : 0 ≤ p0.toInt) (g1 : p0.toInt < (tf 6).toInt) (g2 : (tf 6).toInt ≤ 2049) (g3 : 0 ≤ (cf 33).toInt) (g4 : 0 ≤ (cf 37).toInt) (g5 : 0 ≤ (cf 38).toInt) (htk : TkI tf ta) (hwr : WrV cf (tf 6).toInt) (hkt : KnT (tf 6).toInt ca (cf 33).toInt) (hft : FnT (tf 6).toInt na ca (cf 38).toInt) : MetV l y_Mpg_checkNew b_Mpg_checkNew 3 D cs 8 330 (0) (0) [.ref h, .int p0] [wdP cs h r g tf ta pf na ma wa cf ca ef ea xf xa] (oX (fun A U H => (oP A g U H)) [wdP cs h r g tf ta pf na ma wa cf ca ef ea xf xa]) (fun ps => ∃ (cf' : Nat → Int32), (ps = [wdP cs h r g tf ta pf na ma wa cf' ca ef ea xf xa]) ∧ (KpE cf cf') ∧ (WrV cf' (tf 6).toInt) ∧ ((cf' 33).toInt = (cf 33).toInt) ∧ ((cf' 38).toInt = (cf 38).toInt) ∧ ((cf' 48).toInt = (cf 48).toInt) ∧ ((cf' 46).toInt = (cf 46).toInt) ∧ ((cf' 47).toInt = (cf 47).toInt) ∧ ((cf' 57).toInt = (cf 57).toInt) ∧ ((cf' 37).toInt = (cf 37).toInt) ∧ ((cf' 42).toInt = (cf 42).toInt) ∧ ((cf' 43).toInt = (cf 43).toInt) ∧ ((cf' 44).toInt = (cf 44).toInt) ∧ ((cf' 45).toInt = (cf 45).toInt) ∧ ((cf' 54).toInt = (cf 54).toInt) ∧ ((cf' 55).toInt = (cf 55).toInt) ∧ ((cf' 58).toInt = (cf 58).toInt) ∧ ((cf' 59).toInt = (cf 59).toInt) ∧ ((cf' 41).toInt = (cf 41).toInt) ∧ (R_mp_checkNew tf ta na ca p0 cf cf')) := by
  refine px_enter (by decide) (Nat.le_of_ble_eq_true rfl) ?_
  intro p e s m below meth c A ls hAe S hr hlk hnm hA hT hX hw hl
  have hl : lv_has ls 3 [(0, .ref h), (1, .int p0)] := hl
  have lp0 := Int32.le_toInt p0
  have up0 := Int32.toInt_lt p0
  have cst0 : (0 : Int32).toInt = 0 := rfl
  have cst1 : (1 : Int32).toInt = 1 := rfl
  have hX : (fun A U H => (oP A g U H)) A s s.heap := by rw [hAe]; exact hX
  have hP := hX
  have hZ := hP.1
  have hF0 := hP.2.1
  have hke : KpE cf cf := KpE.rf
  refine lv_aload_n S.x S.b d_Mpg_checkNew_0 rfl (lv_at hl 0 rfl) ?_
  refine lv_iload_n S.x S.b d_Mpg_checkNew_1 rfl (lv_at hl 1 rfl) ?_
  refine lv_aload_n S.x S.b d_Mpg_checkNew_2 rfl (lv_at hl 0 rfl) ?_
  refine px_get S k_Mpg hT hw 0 0 37 (v := .int (cf 37)) rfl rfl rfl (by decide) m10_26 d_Mpg_checkNew_3 ?_
  refine px_calli (pr := []) (px_runV (As := [.int p0, .int (cf 37)]) (rest := []) S (c_mp_find l D cs h r g tf ta pf na ma wa cf ca ef ea xf xa p0 (cf 37)  (show 0 ≤ p0.toInt from by first | exact g0 | omega) (show p0.toInt < (tf 6).toInt from by first | exact g1 | omega) (show (tf 6).toInt ≤ 2049 from by first | exact g2 | omega) (show 0 ≤ (cf 37).toInt from by first | exact g4 | omega) (show 0 ≤ (cf 33).toInt from by first | exact g3 | omega) htk (KnT.eq hkt (by omega)) _) hT (pr := []) (pcs := [wdP cs h r g tf ta pf na ma wa cf ca ef ea xf xa]) hw px_X.tt (px_recv hT hw 0 0 rfl rfl rfl) m12_181 m12_178 m12_180 ms_11_14 m1_21 q_Mpg_find ⟨Nat.le_of_ble_eq_true rfl, Nat.le_of_ble_eq_true rfl⟩ hl.1 rfl (Nat.le_of_ble_eq_true rfl) d_Mpg_checkNew_6 ⟨Nat.le_of_ble_eq_true rfl, Nat.le_of_ble_eq_true rfl⟩) hw hA (fun v2 p1 H locs hp1 hw => ?_)
  obtain ⟨rfl, e3, e4, e5, e6, e7⟩ := hp1
  have e3 : -1 ≤ v2.toInt := e3
  have e4 : v2.toInt < (cf 33).toInt := e4
  have e5 : 0 ≤ v2.toInt → (cf 37).toInt ≤ v2.toInt := e5
  have e6 : FndV ta ca (cf 33).toInt p0 (cf 37).toInt v2.toInt := e6
  have hfd_e6 := e6
  have e7 : R_mp_find ta cf ca p0 (cf 37) v2 := e7
  have hw : pw D A s.heap H locs [wdP cs h r g tf ta pf na ma wa cf ca ef ea xf xa] := hw
  have lv2 := Int32.le_toInt v2
  have uv2 := Int32.toInt_lt v2
  refine lv_if_ge (tgt := 27) S.x S.b d_Mpg_checkNew_9 (by decide) (fun c8 => ?_) (fun c8 => ?_)
  · have nc8 : (0 : Int) ≤ v2.toInt := (i_le (x := 0) (y := v2)).mp c8
    refine lv_iconst (v := 1) S.x S.b d_Mpg_checkNew_27 (by decide) ?_
    refine lv_goto (tgt := 32) S.x S.b d_Mpg_checkNew_28 (by decide) ?_
    refine lv_istore_n (lv' := [(2, .int 1), (0, .ref h), (1, .int p0)]) S.x S.b d_Mpg_checkNew_32 rfl hl (by decide) rfl (fun ls hl => ?_)
    refine lv_iload_n S.x S.b d_Mpg_checkNew_33 rfl (lv_at hl 0 rfl) ?_
    refine lv_if_eq (tgt := 43) S.x S.b d_Mpg_checkNew_34 (by decide) (fun c10 => ?_) (fun c10 => ?_)
    · exact absurd c10 (by decide)
    ·
      refine lv_aload_n S.x S.b d_Mpg_checkNew_37 rfl (lv_at hl 1 rfl) ?_
      refine lv_iconst (v := 1) S.x S.b d_Mpg_checkNew_38 (by decide) ?_
      refine lv_iload_n S.x S.b d_Mpg_checkNew_39 rfl (lv_at hl 2 rfl) ?_
      refine px_callv (pr := []) (px_runV (As := [.int 1, .int p0]) (rest := []) S (c_mp_bad l D cs h r g tf ta pf na ma wa ca ef ea xf xa cf 1 p0  (show 1 ≤ (1 : Int) from by first | exact oz_5ec2f32d28 | omega) (show 0 ≤ p0.toInt from by first | exact g0 | omega) (show p0.toInt < (tf 6).toInt from by first | exact g1 | omega) htk hwr _) hT (pr := []) (pcs := [wdP cs h r g tf ta pf na ma wa cf ca ef ea xf xa]) hw px_X.tt (px_recv hT hw 0 0 rfl rfl rfl) m12_173 m12_170 m12_172 ms_11_12 m1_21 q_Mpg_bad ⟨Nat.le_of_ble_eq_true rfl, Nat.le_of_ble_eq_true rfl⟩ hl.1 rfl (Nat.le_of_ble_eq_true rfl) d_Mpg_checkNew_40 ⟨Nat.le_of_ble_eq_true rfl, Nat.le_of_ble_eq_true rfl⟩) hw hA (fun p13 H locs hp13 hw => ?_)
      obtain ⟨cf12, rfl, e15, e16, e17, e18, e19, e20, e21, e22, e23, e24, e25, e26, e27, e28, e29, e30, e31, e32, e33, e34⟩ := hp13
      have e15 : KpE cf cf12 := e15
      have hke := hke.tr e15
      have e16 : WrV cf12 (tf 6).toInt := e16
      have hwr := e16
      have e17 : 1 ≤ (cf12 30).toInt := e17
      have e18 : (cf12 33).toInt = (cf 33).toInt := e18
      have e19 : (cf12 38).toInt = (cf 38).toInt := e19
      have e20 : (cf12 48).toInt = (cf 48).toInt := e20
      have e21 : (cf12 46).toInt = (cf 46).toInt := e21
      have e22 : (cf12 47).toInt = (cf 47).toInt := e22
      have e23 : (cf12 57).toInt = (cf 57).toInt := e23
      have e24 : (cf12 37).toInt = (cf 37).toInt := e24
      have e25 : (cf12 42).toInt = (cf 42).toInt := e25
      have e26 : (cf12 43).toInt = (cf 43).toInt := e26
      have e27 : (cf12 44).toInt = (cf 44).toInt := e27
      have e28 : (cf12 45).toInt = (cf 45).toInt := e28
      have e29 : (cf12 54).toInt = (cf 54).toInt := e29
      have e30 : (cf12 55).toInt = (cf 55).toInt := e30
      have e31 : (cf12 58).toInt = (cf 58).toInt := e31
      have e32 : (cf12 59).toInt = (cf 59).toInt := e32
      have e33 : (cf12 41).toInt = (cf 41).toInt := e33
      have e34 : R_mp_bad (1 : Int32) p0 cf cf12 := e34
      have hw : pw D A s.heap H locs [wdP cs h r g tf ta pf na ma wa cf12 ca ef ea xf xa] := hw
      exact px_vret S hr hlk hAe hw (Nat.le_of_ble_eq_true rfl) (Nat.le_of_ble_eq_true rfl) (⟨cf12, rfl, (show KpE cf cf12 from hke), (show WrV cf12 (tf 6).toInt from hwr), (show (cf12 33).toInt = (cf 33).toInt from by first | exact e18 | omega), (show (cf12 38).toInt = (cf 38).toInt from by first | exact e19 | omega), (show (cf12 48).toInt = (cf 48).toInt from by first | exact e20 | omega), (show (cf12 46).toInt = (cf 46).toInt from by first | exact e21 | omega), (show (cf12 47).toInt = (cf 47).toInt from by first | exact e22 | omega), (show (cf12 57).toInt = (cf 57).toInt from by first | exact e23 | omega), (show (cf12 37).toInt = (cf 37).toInt from by first | exact e24 | omega), (show (cf12 42).toInt = (cf 42).toInt from by first | exact e25 | omega), (show (cf12 43).toInt = (cf 43).toInt from by first | exact e26 | omega), (show (cf12 44).toInt = (cf 44).toInt from by first | exact e27 | omega), (show (cf12 45).toInt = (cf 45).toInt from by first | exact e28 | omega), (show (cf12 54).toInt = (cf 54).toInt from by first | exact e29 | omega), (show (cf12 55).toInt = (cf 55).toInt from by first | exact e30 | omega), (show (cf12 58).toInt = (cf 58).toInt from by first | exact e31 | omega), (show (cf12 59).toInt = (cf 59).toInt from by first | exact e32 | omega), (show (cf12 41).toInt = (cf 41).toInt from by first | exact e33 | omega), (show R_mp_checkNew tf ta na ca p0 cf cf12 from (Or.inl ⟨v2, e7, Or.inl ⟨nc8, cf12, e34, rfl⟩⟩))⟩) d_Mpg_checkNew_43
  · have nc8 : ¬ (0 : Int) ≤ v2.toInt := mt (i_le (x := 0) (y := v2)).mpr c8
    refine lv_aload_n S.x S.b d_Mpg_checkNew_12 rfl (lv_at hl 0 rfl) ?_
    refine px_get S k_Mpg hT hw 0 0 43 (v := .int (cf 43)) rfl rfl rfl (by decide) m10_34 d_Mpg_checkNew_13 ?_
    refine lv_if_ge (tgt := 31) S.x S.b d_Mpg_checkNew_16 (by decide) (fun c35 => ?_) (fun c35 => ?_)
    · have nc35 : (0 : Int) ≤ (cf 43).toInt := (i_le (x := 0) (y := (cf 43))).mp c35
      refine lv_iconst (v := 0) S.x S.b d_Mpg_checkNew_31 (by decide) ?_
      refine lv_istore_n (lv' := [(2, .int 0), (0, .ref h), (1, .int p0)]) S.x S.b d_Mpg_checkNew_32 rfl hl (by decide) rfl (fun ls hl => ?_)
      refine lv_iload_n S.x S.b d_Mpg_checkNew_33 rfl (lv_at hl 0 rfl) ?_
      refine lv_if_eq (tgt := 43) S.x S.b d_Mpg_checkNew_34 (by decide) (fun c37 => ?_) (fun c37 => ?_)
      ·
        exact px_vret S hr hlk hAe hw (Nat.le_of_ble_eq_true rfl) (Nat.le_of_ble_eq_true rfl) (⟨cf, rfl, (show KpE cf cf from hke), (show WrV cf (tf 6).toInt from hwr), (show (cf 33).toInt = (cf 33).toInt from rfl), (show (cf 38).toInt = (cf 38).toInt from rfl), (show (cf 48).toInt = (cf 48).toInt from rfl), (show (cf 46).toInt = (cf 46).toInt from rfl), (show (cf 47).toInt = (cf 47).toInt from rfl), (show (cf 57).toInt = (cf 57).toInt from rfl), (show (cf 37).toInt = (cf 37).toInt from rfl), (show (cf 42).toInt = (cf 42).toInt from rfl), (show (cf 43).toInt = (cf 43).toInt from rfl), (show (cf 44).toInt = (cf 44).toInt from rfl), (show (cf 45).toInt = (cf 45).toInt from rfl), (show (cf 54).toInt = (cf 54).toInt from rfl), (show (cf 55).toInt = (cf 55).toInt from rfl), (show (cf 58).toInt = (cf 58).toInt from rfl), (show (cf 59).toInt = (cf 59).toInt from rfl), (show (cf 41).toInt = (cf 41).toInt from rfl), (show R_mp_checkNew tf ta na ca p0 cf cf from (Or.inl ⟨v2, e7, Or.inr ⟨nc8, Or.inl ⟨nc35, rfl⟩⟩⟩))⟩) d_Mpg_checkNew_43
      · exact absurd c37 (by decide)
    · have nc35 : ¬ (0 : Int) ≤ (cf 43).toInt := mt (i_le (x := 0) (y := (cf 43))).mpr c35
      refine lv_aload_n S.x S.b d_Mpg_checkNew_19 rfl (lv_at hl 0 rfl) ?_
      refine lv_iload_n S.x S.b d_Mpg_checkNew_20 rfl (lv_at hl 1 rfl) ?_
      refine px_calli (pr := []) (px_runV (As := [.int p0]) (rest := []) S (c_mp_isFunction l D cs h r g tf ta pf na ma wa cf ca ef ea xf xa p0  (show 0 ≤ p0.toInt from by first | exact g0 | omega) (show p0.toInt < (tf 6).toInt from by first | exact g1 | omega) (show (tf 6).toInt ≤ 2049 from by first | exact g2 | omega) (show 0 ≤ (cf 38).toInt from by first | exact g5 | omega) htk (FnT.eq hft (by omega)) _) hT (pr := []) (pcs := [wdP cs h r g tf ta pf na ma wa cf ca ef ea xf xa]) hw (oX_call (P := (fun A U H => (oP A g U H))) (pr := []) oG_P hw hA hP) (px_recv hT hw 0 0 rfl rfl rfl) m12_185 m12_182 m12_184 ms_11_15 m1_21 q_Mpg_isFunction ⟨Nat.le_of_ble_eq_true rfl, Nat.le_of_ble_eq_true rfl⟩ hl.1 rfl (Nat.le_of_ble_eq_true rfl) d_Mpg_checkNew_21 ⟨Nat.le_of_ble_eq_true rfl, Nat.le_of_ble_eq_true rfl⟩) hw hA (fun v39 p38 H locs hp38 hw => ?_)
      obtain ⟨rfl, e40, e41⟩ := hp38
      have e40 := z_rng e40
      have e41 : R_mp_isFunction tf ta na cf ca p0 v39 := e41
      have hw : pw D A s.heap H locs [wdP cs h r g tf ta pf na ma wa cf ca ef ea xf xa] := hw
      have lv39 := Int32.le_toInt v39
      have uv39 := Int32.toInt_lt v39
      refine lv_if_eq (tgt := 31) S.x S.b d_Mpg_checkNew_24 (by decide) (fun c42 => ?_) (fun c42 => ?_)
      · have nc42 : v39.toInt = (0 : Int) := (i_eq (x := v39) (y := 0)).mp c42
        refine lv_iconst (v := 0) S.x S.b d_Mpg_checkNew_31 (by decide) ?_
        refine lv_istore_n (lv' := [(2, .int 0), (0, .ref h), (1, .int p0)]) S.x S.b d_Mpg_checkNew_32 rfl hl (by decide) rfl (fun ls hl => ?_)
        refine lv_iload_n S.x S.b d_Mpg_checkNew_33 rfl (lv_at hl 0 rfl) ?_
        refine lv_if_eq (tgt := 43) S.x S.b d_Mpg_checkNew_34 (by decide) (fun c44 => ?_) (fun c44 => ?_)
        ·
          exact px_vret S hr hlk hAe hw (Nat.le_of_ble_eq_true rfl) (Nat.le_of_ble_eq_true rfl) (⟨cf, rfl, (show KpE cf cf from hke), (show WrV cf (tf 6).toInt from hwr), (show (cf 33).toInt = (cf 33).toInt from rfl), (show (cf 38).toInt = (cf 38).toInt from rfl), (show (cf 48).toInt = (cf 48).toInt from rfl), (show (cf 46).toInt = (cf 46).toInt from rfl), (show (cf 47).toInt = (cf 47).toInt from rfl), (show (cf 57).toInt = (cf 57).toInt from rfl), (show (cf 37).toInt = (cf 37).toInt from rfl), (show (cf 42).toInt = (cf 42).toInt from rfl), (show (cf 43).toInt = (cf 43).toInt from rfl), (show (cf 44).toInt = (cf 44).toInt from rfl), (show (cf 45).toInt = (cf 45).toInt from rfl), (show (cf 54).toInt = (cf 54).toInt from rfl), (show (cf 55).toInt = (cf 55).toInt from rfl), (show (cf 58).toInt = (cf 58).toInt from rfl), (show (cf 59).toInt = (cf 59).toInt from rfl), (show (cf 41).toInt = (cf 41).toInt from rfl), (show R_mp_checkNew tf ta na ca p0 cf cf from (Or.inl ⟨v2, e7, Or.inr ⟨nc8, Or.inr ⟨nc35, v39, e41, Or.inl ⟨nc42, rfl⟩⟩⟩⟩))⟩) d_Mpg_checkNew_43
        · exact absurd c44 (by decide)
      · have nc42 : ¬ v39.toInt = (0 : Int) := mt (i_eq (x := v39) (y := 0)).mpr c42
        refine lv_iconst (v := 1) S.x S.b d_Mpg_checkNew_27 (by decide) ?_
        refine lv_goto (tgt := 32) S.x S.b d_Mpg_checkNew_28 (by decide) ?_
        refine lv_istore_n (lv' := [(2, .int 1), (0, .ref h), (1, .int p0)]) S.x S.b d_Mpg_checkNew_32 rfl hl (by decide) rfl (fun ls hl => ?_)
        refine lv_iload_n S.x S.b d_Mpg_checkNew_33 rfl (lv_at hl 0 rfl) ?_
        refine lv_if_eq (tgt := 43) S.x S.b d_Mpg_checkNew_34 (by decide) (fun c45 => ?_) (fun c45 => ?_)
        · exact absurd c45 (by decide)
        ·
          refine lv_aload_n S.x S.b d_Mpg_checkNew_37 rfl (lv_at hl 1 rfl) ?_
          refine lv_iconst (v := 1) S.x S.b d_Mpg_checkNew_38 (by decide) ?_
          refine lv_iload_n S.x S.b d_Mpg_checkNew_39 rfl (lv_at hl 2 rfl) ?_
          refine px_callv (pr := []) (px_runV (As := [.int 1, .int p0]) (rest := []) S (c_mp_bad l D cs h r g tf ta pf na ma wa ca ef ea xf xa cf 1 p0  (show 1 ≤ (1 : Int) from by first | exact oz_5ec2f32d28 | omega) (show 0 ≤ p0.toInt from by first | exact g0 | omega) (show p0.toInt < (tf 6).toInt from by first | exact g1 | omega) htk hwr _) hT (pr := []) (pcs := [wdP cs h r g tf ta pf na ma wa cf ca ef ea xf xa]) hw px_X.tt (px_recv hT hw 0 0 rfl rfl rfl) m12_173 m12_170 m12_172 ms_11_12 m1_21 q_Mpg_bad ⟨Nat.le_of_ble_eq_true rfl, Nat.le_of_ble_eq_true rfl⟩ hl.1 rfl (Nat.le_of_ble_eq_true rfl) d_Mpg_checkNew_40 ⟨Nat.le_of_ble_eq_true rfl, Nat.le_of_ble_eq_true rfl⟩) hw hA (fun p48 H locs hp48 hw => ?_)
          obtain ⟨cf47, rfl, e50, e51, e52, e53, e54, e55, e56, e57, e58, e59, e60, e61, e62, e63, e64, e65, e66, e67, e68, e69⟩ := hp48
          have e50 : KpE cf cf47 := e50
          have hke := hke.tr e50
          have e51 : WrV cf47 (tf 6).toInt := e51
          have hwr := e51
          have e52 : 1 ≤ (cf47 30).toInt := e52
          have e53 : (cf47 33).toInt = (cf 33).toInt := e53
          have e54 : (cf47 38).toInt = (cf 38).toInt := e54
          have e55 : (cf47 48).toInt = (cf 48).toInt := e55
          have e56 : (cf47 46).toInt = (cf 46).toInt := e56
          have e57 : (cf47 47).toInt = (cf 47).toInt := e57
          have e58 : (cf47 57).toInt = (cf 57).toInt := e58
          have e59 : (cf47 37).toInt = (cf 37).toInt := e59
          have e60 : (cf47 42).toInt = (cf 42).toInt := e60
          have e61 : (cf47 43).toInt = (cf 43).toInt := e61
          have e62 : (cf47 44).toInt = (cf 44).toInt := e62
          have e63 : (cf47 45).toInt = (cf 45).toInt := e63
          have e64 : (cf47 54).toInt = (cf 54).toInt := e64
          have e65 : (cf47 55).toInt = (cf 55).toInt := e65
          have e66 : (cf47 58).toInt = (cf 58).toInt := e66
          have e67 : (cf47 59).toInt = (cf 59).toInt := e67
          have e68 : (cf47 41).toInt = (cf 41).toInt := e68
          have e69 : R_mp_bad (1 : Int32) p0 cf cf47 := e69
          have hw : pw D A s.heap H locs [wdP cs h r g tf ta pf na ma wa cf47 ca ef ea xf xa] := hw
          exact px_vret S hr hlk hAe hw (Nat.le_of_ble_eq_true rfl) (Nat.le_of_ble_eq_true rfl) (⟨cf47, rfl, (show KpE cf cf47 from hke), (show WrV cf47 (tf 6).toInt from hwr), (show (cf47 33).toInt = (cf 33).toInt from by first | exact e53 | omega), (show (cf47 38).toInt = (cf 38).toInt from by first | exact e54 | omega), (show (cf47 48).toInt = (cf 48).toInt from by first | exact e55 | omega), (show (cf47 46).toInt = (cf 46).toInt from by first | exact e56 | omega), (show (cf47 47).toInt = (cf 47).toInt from by first | exact e57 | omega), (show (cf47 57).toInt = (cf 57).toInt from by first | exact e58 | omega), (show (cf47 37).toInt = (cf 37).toInt from by first | exact e59 | omega), (show (cf47 42).toInt = (cf 42).toInt from by first | exact e60 | omega), (show (cf47 43).toInt = (cf 43).toInt from by first | exact e61 | omega), (show (cf47 44).toInt = (cf 44).toInt from by first | exact e62 | omega), (show (cf47 45).toInt = (cf 45).toInt from by first | exact e63 | omega), (show (cf47 54).toInt = (cf 54).toInt from by first | exact e64 | omega), (show (cf47 55).toInt = (cf 55).toInt from by first | exact e65 | omega), (show (cf47 58).toInt = (cf 58).toInt from by first | exact e66 | omega), (show (cf47 59).toInt = (cf 59).toInt from by first | exact e67 | omega), (show (cf47 41).toInt = (cf 41).toInt from by first | exact e68 | omega), (show R_mp_checkNew tf ta na ca p0 cf cf47 from (Or.inl ⟨v2, e7, Or.inr ⟨nc8, Or.inr ⟨nc35, v39, e41, Or.inr ⟨nc42, cf47, e69, rfl⟩⟩⟩⟩))⟩) d_Mpg_checkNew_43
abbrev b_Mpg_lay : ByteArray := prog_16_method_70_code
def y_Mpg_lay : MethodName := ⟨"HomeSystemModel$Program", "lay", "(II)I"⟩
theorem d_Mpg_lay_0 : decode b_Mpg_lay 0 = .ok (.aload_n 0, 1) := by decide +kernel
theorem d_Mpg_lay_1 : decode b_Mpg_lay 1 = .ok (.getfield 261, 3) := by decide +kernel
theorem d_Mpg_lay_4 : decode b_Mpg_lay 4 = .ok (.aload_n 0, 1) := by decide +kernel
theorem d_Mpg_lay_5 : decode b_Mpg_lay 5 = .ok (.getfield 547, 3) := by decide +kernel
theorem d_Mpg_lay_8 : decode b_Mpg_lay 8 = .ok (.iload_n 1, 1) := by decide +kernel
theorem d_Mpg_lay_9 : decode b_Mpg_lay 9 = .ok (.i2b, 1) := by decide +kernel
theorem d_Mpg_lay_10 : decode b_Mpg_lay 10 = .ok (.bastore, 1) := by decide +kernel
theorem d_Mpg_lay_11 : decode b_Mpg_lay 11 = .ok (.aload_n 0, 1) := by decide +kernel
theorem d_Mpg_lay_12 : decode b_Mpg_lay 12 = .ok (.getfield 264, 3) := by decide +kernel
theorem d_Mpg_lay_15 : decode b_Mpg_lay 15 = .ok (.aload_n 0, 1) := by decide +kernel
theorem d_Mpg_lay_16 : decode b_Mpg_lay 16 = .ok (.getfield 547, 3) := by decide +kernel
theorem d_Mpg_lay_19 : decode b_Mpg_lay 19 = .ok (.aload_n 0, 1) := by decide +kernel
theorem d_Mpg_lay_20 : decode b_Mpg_lay 20 = .ok (.getfield 550, 3) := by decide +kernel
theorem d_Mpg_lay_23 : decode b_Mpg_lay 23 = .ok (.ifCond .ge 7, 3) := by decide +kernel
theorem d_Mpg_lay_26 : decode b_Mpg_lay 26 = .ok (.iconst 1, 1) := by decide +kernel
theorem d_Mpg_lay_27 : decode b_Mpg_lay 27 = .ok (.goto 4, 3) := by decide +kernel
theorem d_Mpg_lay_30 : decode b_Mpg_lay 30 = .ok (.iconst 0, 1) := by decide +kernel
theorem d_Mpg_lay_31 : decode b_Mpg_lay 31 = .ok (.bastore, 1) := by decide +kernel
theorem d_Mpg_lay_32 : decode b_Mpg_lay 32 = .ok (.aload_n 0, 1) := by decide +kernel
theorem d_Mpg_lay_33 : decode b_Mpg_lay 33 = .ok (.getfield 268, 3) := by decide +kernel
theorem d_Mpg_lay_36 : decode b_Mpg_lay 36 = .ok (.aload_n 0, 1) := by decide +kernel
theorem d_Mpg_lay_37 : decode b_Mpg_lay 37 = .ok (.getfield 547, 3) := by decide +kernel
theorem d_Mpg_lay_40 : decode b_Mpg_lay 40 = .ok (.aload_n 0, 1) := by decide +kernel
theorem d_Mpg_lay_41 : decode b_Mpg_lay 41 = .ok (.getfield 553, 3) := by decide +kernel
theorem d_Mpg_lay_44 : decode b_Mpg_lay 44 = .ok (.iastore, 1) := by decide +kernel
theorem d_Mpg_lay_45 : decode b_Mpg_lay 45 = .ok (.aload_n 0, 1) := by decide +kernel
theorem d_Mpg_lay_46 : decode b_Mpg_lay 46 = .ok (.getfield 271, 3) := by decide +kernel
theorem d_Mpg_lay_49 : decode b_Mpg_lay 49 = .ok (.aload_n 0, 1) := by decide +kernel
theorem d_Mpg_lay_50 : decode b_Mpg_lay 50 = .ok (.getfield 547, 3) := by decide +kernel
theorem d_Mpg_lay_53 : decode b_Mpg_lay 53 = .ok (.iload_n 2, 1) := by decide +kernel
theorem d_Mpg_lay_54 : decode b_Mpg_lay 54 = .ok (.iastore, 1) := by decide +kernel
theorem d_Mpg_lay_55 : decode b_Mpg_lay 55 = .ok (.aload_n 0, 1) := by decide +kernel
theorem d_Mpg_lay_56 : decode b_Mpg_lay 56 = .ok (.aload_n 0, 1) := by decide +kernel
theorem d_Mpg_lay_57 : decode b_Mpg_lay 57 = .ok (.getfield 553, 3) := by decide +kernel
theorem d_Mpg_lay_60 : decode b_Mpg_lay 60 = .ok (.iload_n 1, 1) := by decide +kernel
theorem d_Mpg_lay_61 : decode b_Mpg_lay 61 = .ok (.iconst 4, 1) := by decide +kernel
theorem d_Mpg_lay_62 : decode b_Mpg_lay 62 = .ok (.if_icmp .lt 7, 3) := by decide +kernel
theorem d_Mpg_lay_65 : decode b_Mpg_lay 65 = .ok (.iconst 2, 1) := by decide +kernel
theorem d_Mpg_lay_66 : decode b_Mpg_lay 66 = .ok (.goto 4, 3) := by decide +kernel
theorem d_Mpg_lay_69 : decode b_Mpg_lay 69 = .ok (.iload_n 2, 1) := by decide +kernel
theorem d_Mpg_lay_70 : decode b_Mpg_lay 70 = .ok (.iadd, 1) := by decide +kernel
theorem d_Mpg_lay_71 : decode b_Mpg_lay 71 = .ok (.putfield 553, 3) := by decide +kernel
theorem d_Mpg_lay_74 : decode b_Mpg_lay 74 = .ok (.aload_n 0, 1) := by decide +kernel
theorem d_Mpg_lay_75 : decode b_Mpg_lay 75 = .ok (.dup, 1) := by decide +kernel
theorem d_Mpg_lay_76 : decode b_Mpg_lay 76 = .ok (.getfield 547, 3) := by decide +kernel
theorem d_Mpg_lay_79 : decode b_Mpg_lay 79 = .ok (.iconst 1, 1) := by decide +kernel
theorem d_Mpg_lay_80 : decode b_Mpg_lay 80 = .ok (.iadd, 1) := by decide +kernel
theorem d_Mpg_lay_81 : decode b_Mpg_lay 81 = .ok (.putfield 547, 3) := by decide +kernel
theorem d_Mpg_lay_84 : decode b_Mpg_lay 84 = .ok (.aload_n 0, 1) := by decide +kernel
theorem d_Mpg_lay_85 : decode b_Mpg_lay 85 = .ok (.getfield 547, 3) := by decide +kernel
theorem d_Mpg_lay_88 : decode b_Mpg_lay 88 = .ok (.iconst 1, 1) := by decide +kernel
theorem d_Mpg_lay_89 : decode b_Mpg_lay 89 = .ok (.isub, 1) := by decide +kernel
theorem d_Mpg_lay_90 : decode b_Mpg_lay 90 = .ok (.ireturn, 1) := by decide +kernel
theorem q_Mpg_lay : px_y y_Mpg_lay 2 := by unfold px_y; decide +kernel
set_option maxHeartbeats 4000000 in
set_option maxRecDepth 100000 in
theorem c_mp_lay (l : Launch) (D : va_G) (cs : Nat → ClassId) (h : Nat) (r : Nat → Nat) (g : Nat → Nat → Option Nat) (tf : Nat → Int32) (ta : Nat → Nat → Int32) (pf : Nat → Int32) (na : Nat → Nat → Int32) (ma : Nat → Nat → Int32) (wa : Nat → Nat → Int32) (ef : Nat → Int32) (ea : Nat → Nat → Int32) (xf : Nat → Int32) (xa : Nat → Nat → Int32) (cf : Nat → Int32) (ca : Nat → Nat → Int32) (p0 p1 : Int32)  (g0 : 0 ≤ (cf 48).toInt) (g1 : (cf 48).toInt < 1100) (g2 : 0 ≤ p0.toInt) (g3 : p0.toInt ≤ 5) (g4 : 0 ≤ p1.toInt) (g5 : p1.toInt ≤ 4096) (g6 : 0 ≤ (cf 54).toInt) (g7 : (cf 54).toInt ≤ 40000000) (htk : TkI tf ta) : MetI l y_Mpg_lay b_Mpg_lay 3 (.int) D cs 0 0 (0) (0) [.ref h, .int p0, .int p1] [wdP cs h r g tf ta pf na ma wa cf ca ef ea xf xa] (fun _ => True) (fun v ps => ∃ (cf' : Nat → Int32) (ca' : Nat → Nat → Int32), (ps = [wdP cs h r g tf ta pf na ma wa cf' ca' ef ea xf xa]) ∧ (v.toInt = (cf 48).toInt) ∧ ((cf' 48).toInt = (cf 48).toInt + 1) ∧ ((cf 54).toInt ≤ (cf' 54).toInt) ∧ ((cf' 54).toInt ≤ (cf 54).toInt + 4096) ∧ (p0.toInt ≤ 3 → (cf' 54).toInt = (cf 54).toInt + p1.toInt) ∧ (4 ≤ p0.toInt → (cf' 54).toInt = (cf 54).toInt + 2) ∧ ((cf' 30).toInt = (cf 30).toInt) ∧ ((cf' 31).toInt = (cf 31).toInt) ∧ ((cf' 33).toInt = (cf 33).toInt) ∧ ((cf' 37).toInt = (cf 37).toInt) ∧ ((cf' 38).toInt = (cf 38).toInt) ∧ ((cf' 41).toInt = (cf 41).toInt) ∧ ((cf' 42).toInt = (cf 42).toInt) ∧ ((cf' 43).toInt = (cf 43).toInt) ∧ ((cf' 44).toInt = (cf 44).toInt) ∧ ((cf' 45).toInt = (cf 45).toInt) ∧ ((cf' 46).toInt = (cf 46).toInt) ∧ ((cf' 47).toInt = (cf 47).toInt) ∧ ((cf' 55).toInt = (cf 55).toInt) ∧ ((cf' 57).toInt = (cf 57).toInt) ∧ ((cf' 58).toInt = (cf 58).toInt) ∧ ((cf' 59).toInt = (cf 59).toInt) ∧ (LyU ca ca' (cf 48) p0 (cf 54) p1 (txo (cf 43).toInt)) ∧ (R_mp_lay p0 p1 cf ca cf' ca' v)) := by
  refine px_enter (by decide) (Nat.le_of_ble_eq_true rfl) ?_
  intro p e s m below meth c A ls hAe S hr hlk hnm hA hT hX hw hl
  have hl : lv_has ls 3 [(0, .ref h), (1, .int p0), (2, .int p1)] := hl
  have lp0 := Int32.le_toInt p0
  have up0 := Int32.toInt_lt p0
  have lp1 := Int32.le_toInt p1
  have up1 := Int32.toInt_lt p1
  have cst0 : (0 : Int32).toInt = 0 := rfl
  have cst1 : (1 : Int32).toInt = 1 := rfl
  have cst2 : (2 : Int32).toInt = 2 := rfl
  have cst4 : (4 : Int32).toInt = 4 := rfl
  refine lv_aload_n S.x S.b d_Mpg_lay_0 rfl (lv_at hl 0 rfl) ?_
  refine px_get S k_Mpg hT hw 0 0 49 (v := .ref (r 49)) rfl rfl rfl (by decide) m10_40 d_Mpg_lay_1 ?_
  refine lv_aload_n S.x S.b d_Mpg_lay_4 rfl (lv_at hl 0 rfl) ?_
  refine px_get S k_Mpg hT hw 0 0 48 (v := .int (cf 48)) rfl rfl rfl (by decide) m10_39 d_Mpg_lay_5 ?_
  refine lv_iload_n S.x S.b d_Mpg_lay_8 rfl (lv_at hl 1 rfl) ?_
  refine lv_i2b S.x S.b d_Mpg_lay_9 rfl ?_
  refine lv_topi (fun z1 ez1 => ?_)
  have lz1 := Int32.le_toInt z1
  have uz1 := Int32.toInt_lt z1
  refine px_bast S hT hw 0 28 (n := 1100) (f := (ca 49)) (x := (cf 48)) (y := z1) rfl gp_49 (vp_in_iff.mpr (by constructor <;> omega)) d_Mpg_lay_10 (w' := wdP cs h r g tf ta pf na ma wa cf (va_up ca 49 (upd (ca 49) (cf 48).toNatClampNeg (vp_nar .byte z1))) ef ea xf xa) (ps' := [wdP cs h r g tf ta pf na ma wa cf (va_up ca 49 (upd (ca 49) (cf 48).toNatClampNeg (vp_nar .byte z1))) ef ea xf xa]) sp_49 rfl (fun H locs hw => ?_)
  refine lv_aload_n S.x S.b d_Mpg_lay_11 rfl (lv_at hl 0 rfl) ?_
  refine px_get S k_Mpg hT hw 0 0 50 (v := .ref (r 50)) rfl rfl rfl (by decide) m10_42 d_Mpg_lay_12 ?_
  refine lv_aload_n S.x S.b d_Mpg_lay_15 rfl (lv_at hl 0 rfl) ?_
  refine px_get S k_Mpg hT hw 0 0 48 (v := .int (cf 48)) rfl rfl rfl (by decide) m10_39 d_Mpg_lay_16 ?_
  refine lv_aload_n S.x S.b d_Mpg_lay_19 rfl (lv_at hl 0 rfl) ?_
  refine px_get S k_Mpg hT hw 0 0 43 (v := .int (cf 43)) rfl rfl rfl (by decide) m10_34 d_Mpg_lay_20 ?_
  refine lv_if_ge (tgt := 30) S.x S.b d_Mpg_lay_23 (by decide) (fun c2 => ?_) (fun c2 => ?_)
  · have nc2 : (0 : Int) ≤ (cf 43).toInt := (i_le (x := 0) (y := (cf 43))).mp c2
    refine lv_iconst (v := 0) S.x S.b d_Mpg_lay_30 (by decide) ?_
    refine px_zast S hT hw 0 29 (n := 1100) (f := ((va_up ca 49 (upd (ca 49) (cf 48).toNatClampNeg (vp_nar .byte z1))) 50)) (x := (cf 48)) (y := 0) rfl gp_50 (vp_in_iff.mpr (by constructor <;> omega)) d_Mpg_lay_31 (w' := wdP cs h r g tf ta pf na ma wa cf (va_up (va_up ca 49 (upd (ca 49) (cf 48).toNatClampNeg (vp_nar .byte z1))) 50 (upd ((va_up ca 49 (upd (ca 49) (cf 48).toNatClampNeg (vp_nar .byte z1))) 50) (cf 48).toNatClampNeg (vp_nar .boolean 0))) ef ea xf xa) (ps' := [wdP cs h r g tf ta pf na ma wa cf (va_up (va_up ca 49 (upd (ca 49) (cf 48).toNatClampNeg (vp_nar .byte z1))) 50 (upd ((va_up ca 49 (upd (ca 49) (cf 48).toNatClampNeg (vp_nar .byte z1))) 50) (cf 48).toNatClampNeg (vp_nar .boolean 0))) ef ea xf xa]) sp_50 rfl (fun H locs hw => ?_)
    refine lv_aload_n S.x S.b d_Mpg_lay_32 rfl (lv_at hl 0 rfl) ?_
    refine px_get S k_Mpg hT hw 0 0 51 (v := .ref (r 51)) rfl rfl rfl (by decide) m10_44 d_Mpg_lay_33 ?_
    refine lv_aload_n S.x S.b d_Mpg_lay_36 rfl (lv_at hl 0 rfl) ?_
    refine px_get S k_Mpg hT hw 0 0 48 (v := .int (cf 48)) rfl rfl rfl (by decide) m10_39 d_Mpg_lay_37 ?_
    refine lv_aload_n S.x S.b d_Mpg_lay_40 rfl (lv_at hl 0 rfl) ?_
    refine px_get S k_Mpg hT hw 0 0 54 (v := .int (cf 54)) rfl rfl rfl (by decide) m10_49 d_Mpg_lay_41 ?_
    refine px_iast S hT hw 0 30 (n := 1100) (f := ((va_up (va_up ca 49 (upd (ca 49) (cf 48).toNatClampNeg (vp_nar .byte z1))) 50 (upd ((va_up ca 49 (upd (ca 49) (cf 48).toNatClampNeg (vp_nar .byte z1))) 50) (cf 48).toNatClampNeg (vp_nar .boolean 0))) 51)) (x := (cf 48)) (y := (cf 54)) rfl gp_51 (vp_in_iff.mpr (by constructor <;> omega)) d_Mpg_lay_44 (w' := wdP cs h r g tf ta pf na ma wa cf (va_up (va_up (va_up ca 49 (upd (ca 49) (cf 48).toNatClampNeg (vp_nar .byte z1))) 50 (upd ((va_up ca 49 (upd (ca 49) (cf 48).toNatClampNeg (vp_nar .byte z1))) 50) (cf 48).toNatClampNeg (vp_nar .boolean 0))) 51 (upd ((va_up (va_up ca 49 (upd (ca 49) (cf 48).toNatClampNeg (vp_nar .byte z1))) 50 (upd ((va_up ca 49 (upd (ca 49) (cf 48).toNatClampNeg (vp_nar .byte z1))) 50) (cf 48).toNatClampNeg (vp_nar .boolean 0))) 51) (cf 48).toNatClampNeg (cf 54))) ef ea xf xa) (ps' := [wdP cs h r g tf ta pf na ma wa cf (va_up (va_up (va_up ca 49 (upd (ca 49) (cf 48).toNatClampNeg (vp_nar .byte z1))) 50 (upd ((va_up ca 49 (upd (ca 49) (cf 48).toNatClampNeg (vp_nar .byte z1))) 50) (cf 48).toNatClampNeg (vp_nar .boolean 0))) 51 (upd ((va_up (va_up ca 49 (upd (ca 49) (cf 48).toNatClampNeg (vp_nar .byte z1))) 50 (upd ((va_up ca 49 (upd (ca 49) (cf 48).toNatClampNeg (vp_nar .byte z1))) 50) (cf 48).toNatClampNeg (vp_nar .boolean 0))) 51) (cf 48).toNatClampNeg (cf 54))) ef ea xf xa]) sp_51 rfl (fun H locs hw => ?_)
    refine lv_aload_n S.x S.b d_Mpg_lay_45 rfl (lv_at hl 0 rfl) ?_
    refine px_get S k_Mpg hT hw 0 0 52 (v := .ref (r 52)) rfl rfl rfl (by decide) m10_46 d_Mpg_lay_46 ?_
    refine lv_aload_n S.x S.b d_Mpg_lay_49 rfl (lv_at hl 0 rfl) ?_
    refine px_get S k_Mpg hT hw 0 0 48 (v := .int (cf 48)) rfl rfl rfl (by decide) m10_39 d_Mpg_lay_50 ?_
    refine lv_iload_n S.x S.b d_Mpg_lay_53 rfl (lv_at hl 2 rfl) ?_
    refine px_iast S hT hw 0 31 (n := 1100) (f := ((va_up (va_up (va_up ca 49 (upd (ca 49) (cf 48).toNatClampNeg (vp_nar .byte z1))) 50 (upd ((va_up ca 49 (upd (ca 49) (cf 48).toNatClampNeg (vp_nar .byte z1))) 50) (cf 48).toNatClampNeg (vp_nar .boolean 0))) 51 (upd ((va_up (va_up ca 49 (upd (ca 49) (cf 48).toNatClampNeg (vp_nar .byte z1))) 50 (upd ((va_up ca 49 (upd (ca 49) (cf 48).toNatClampNeg (vp_nar .byte z1))) 50) (cf 48).toNatClampNeg (vp_nar .boolean 0))) 51) (cf 48).toNatClampNeg (cf 54))) 52)) (x := (cf 48)) (y := p1) rfl gp_52 (vp_in_iff.mpr (by constructor <;> omega)) d_Mpg_lay_54 (w' := wdP cs h r g tf ta pf na ma wa cf (va_up (va_up (va_up (va_up ca 49 (upd (ca 49) (cf 48).toNatClampNeg (vp_nar .byte z1))) 50 (upd ((va_up ca 49 (upd (ca 49) (cf 48).toNatClampNeg (vp_nar .byte z1))) 50) (cf 48).toNatClampNeg (vp_nar .boolean 0))) 51 (upd ((va_up (va_up ca 49 (upd (ca 49) (cf 48).toNatClampNeg (vp_nar .byte z1))) 50 (upd ((va_up ca 49 (upd (ca 49) (cf 48).toNatClampNeg (vp_nar .byte z1))) 50) (cf 48).toNatClampNeg (vp_nar .boolean 0))) 51) (cf 48).toNatClampNeg (cf 54))) 52 (upd ((va_up (va_up (va_up ca 49 (upd (ca 49) (cf 48).toNatClampNeg (vp_nar .byte z1))) 50 (upd ((va_up ca 49 (upd (ca 49) (cf 48).toNatClampNeg (vp_nar .byte z1))) 50) (cf 48).toNatClampNeg (vp_nar .boolean 0))) 51 (upd ((va_up (va_up ca 49 (upd (ca 49) (cf 48).toNatClampNeg (vp_nar .byte z1))) 50 (upd ((va_up ca 49 (upd (ca 49) (cf 48).toNatClampNeg (vp_nar .byte z1))) 50) (cf 48).toNatClampNeg (vp_nar .boolean 0))) 51) (cf 48).toNatClampNeg (cf 54))) 52) (cf 48).toNatClampNeg p1)) ef ea xf xa) (ps' := [wdP cs h r g tf ta pf na ma wa cf (va_up (va_up (va_up (va_up ca 49 (upd (ca 49) (cf 48).toNatClampNeg (vp_nar .byte z1))) 50 (upd ((va_up ca 49 (upd (ca 49) (cf 48).toNatClampNeg (vp_nar .byte z1))) 50) (cf 48).toNatClampNeg (vp_nar .boolean 0))) 51 (upd ((va_up (va_up ca 49 (upd (ca 49) (cf 48).toNatClampNeg (vp_nar .byte z1))) 50 (upd ((va_up ca 49 (upd (ca 49) (cf 48).toNatClampNeg (vp_nar .byte z1))) 50) (cf 48).toNatClampNeg (vp_nar .boolean 0))) 51) (cf 48).toNatClampNeg (cf 54))) 52 (upd ((va_up (va_up (va_up ca 49 (upd (ca 49) (cf 48).toNatClampNeg (vp_nar .byte z1))) 50 (upd ((va_up ca 49 (upd (ca 49) (cf 48).toNatClampNeg (vp_nar .byte z1))) 50) (cf 48).toNatClampNeg (vp_nar .boolean 0))) 51 (upd ((va_up (va_up ca 49 (upd (ca 49) (cf 48).toNatClampNeg (vp_nar .byte z1))) 50 (upd ((va_up ca 49 (upd (ca 49) (cf 48).toNatClampNeg (vp_nar .byte z1))) 50) (cf 48).toNatClampNeg (vp_nar .boolean 0))) 51) (cf 48).toNatClampNeg (cf 54))) 52) (cf 48).toNatClampNeg p1)) ef ea xf xa]) sp_52 rfl (fun H locs hw => ?_)
    refine lv_aload_n S.x S.b d_Mpg_lay_55 rfl (lv_at hl 0 rfl) ?_
    refine lv_aload_n S.x S.b d_Mpg_lay_56 rfl (lv_at hl 0 rfl) ?_
    refine px_get S k_Mpg hT hw 0 0 54 (v := .int (cf 54)) rfl rfl rfl (by decide) m10_49 d_Mpg_lay_57 ?_
    refine lv_iload_n S.x S.b d_Mpg_lay_60 rfl (lv_at hl 1 rfl) ?_
    refine lv_iconst (v := 4) S.x S.b d_Mpg_lay_61 (by decide) ?_
    refine lv_icmp_lt (tgt := 69) S.x S.b d_Mpg_lay_62 (by decide) (fun c4 => ?_) (fun c4 => ?_)
    · have nc4 : p0.toInt < (4 : Int) := (i_lt (x := p0) (y := 4)).mp c4
      refine lv_iload_n S.x S.b d_Mpg_lay_69 rfl (lv_at hl 2 rfl) ?_
      refine lv_iadd S.x S.b d_Mpg_lay_70 ?_
      have lr6 := Int32.le_toInt (cf 54)
      have ur6 := Int32.toInt_lt (cf 54)
      refine lv_topi (fun z7 ez7 => ?_)
      have tz7 : z7.toInt = ((cf 54).toInt + p1.toInt + 2147483648) % 4294967296 - 2147483648 := by rw [ez7]; exact i_add (cf 54) p1
      have lz7 := Int32.le_toInt z7
      have uz7 := Int32.toInt_lt z7
      try replace tz7 : z7.toInt = (cf 54).toInt + p1.toInt := by omega
      refine px_put S k_Mpg hT hw 0 0 54 rfl rfl (by decide) m10_49 rfl rfl rfl (Nat.le_of_ble_eq_true rfl) d_Mpg_lay_71 (w' := wdP cs h r g tf ta pf na ma wa (upd cf 54 z7) (va_up (va_up (va_up (va_up ca 49 (upd (ca 49) (cf 48).toNatClampNeg (vp_nar .byte z1))) 50 (upd ((va_up ca 49 (upd (ca 49) (cf 48).toNatClampNeg (vp_nar .byte z1))) 50) (cf 48).toNatClampNeg (vp_nar .boolean 0))) 51 (upd ((va_up (va_up ca 49 (upd (ca 49) (cf 48).toNatClampNeg (vp_nar .byte z1))) 50 (upd ((va_up ca 49 (upd (ca 49) (cf 48).toNatClampNeg (vp_nar .byte z1))) 50) (cf 48).toNatClampNeg (vp_nar .boolean 0))) 51) (cf 48).toNatClampNeg (cf 54))) 52 (upd ((va_up (va_up (va_up ca 49 (upd (ca 49) (cf 48).toNatClampNeg (vp_nar .byte z1))) 50 (upd ((va_up ca 49 (upd (ca 49) (cf 48).toNatClampNeg (vp_nar .byte z1))) 50) (cf 48).toNatClampNeg (vp_nar .boolean 0))) 51 (upd ((va_up (va_up ca 49 (upd (ca 49) (cf 48).toNatClampNeg (vp_nar .byte z1))) 50 (upd ((va_up ca 49 (upd (ca 49) (cf 48).toNatClampNeg (vp_nar .byte z1))) 50) (cf 48).toNatClampNeg (vp_nar .boolean 0))) 51) (cf 48).toNatClampNeg (cf 54))) 52) (cf 48).toNatClampNeg p1)) ef ea xf xa) (ps' := [wdP cs h r g tf ta pf na ma wa (upd cf 54 z7) (va_up (va_up (va_up (va_up ca 49 (upd (ca 49) (cf 48).toNatClampNeg (vp_nar .byte z1))) 50 (upd ((va_up ca 49 (upd (ca 49) (cf 48).toNatClampNeg (vp_nar .byte z1))) 50) (cf 48).toNatClampNeg (vp_nar .boolean 0))) 51 (upd ((va_up (va_up ca 49 (upd (ca 49) (cf 48).toNatClampNeg (vp_nar .byte z1))) 50 (upd ((va_up ca 49 (upd (ca 49) (cf 48).toNatClampNeg (vp_nar .byte z1))) 50) (cf 48).toNatClampNeg (vp_nar .boolean 0))) 51) (cf 48).toNatClampNeg (cf 54))) 52 (upd ((va_up (va_up (va_up ca 49 (upd (ca 49) (cf 48).toNatClampNeg (vp_nar .byte z1))) 50 (upd ((va_up ca 49 (upd (ca 49) (cf 48).toNatClampNeg (vp_nar .byte z1))) 50) (cf 48).toNatClampNeg (vp_nar .boolean 0))) 51 (upd ((va_up (va_up ca 49 (upd (ca 49) (cf 48).toNatClampNeg (vp_nar .byte z1))) 50 (upd ((va_up ca 49 (upd (ca 49) (cf 48).toNatClampNeg (vp_nar .byte z1))) 50) (cf 48).toNatClampNeg (vp_nar .boolean 0))) 51) (cf 48).toNatClampNeg (cf 54))) 52) (cf 48).toNatClampNeg p1)) ef ea xf xa]) rfl rfl (fun H locs hw => ?_)
      refine lv_aload_n S.x S.b d_Mpg_lay_74 rfl (lv_at hl 0 rfl) ?_
      refine lv_dup S.x S.b d_Mpg_lay_75 rfl ?_
      refine px_get S k_Mpg hT hw 0 0 48 (v := .int (cf 48)) rfl rfl rfl (by decide) m10_39 d_Mpg_lay_76 ?_
      refine lv_iconst (v := 1) S.x S.b d_Mpg_lay_79 (by decide) ?_
      refine lv_iadd S.x S.b d_Mpg_lay_80 ?_
      have lr8 := Int32.le_toInt (cf 48)
      have ur8 := Int32.toInt_lt (cf 48)
      refine lv_topi (fun z9 ez9 => ?_)
      have tz9 : z9.toInt = ((cf 48).toInt + (1 : Int) + 2147483648) % 4294967296 - 2147483648 := by rw [ez9]; exact i_add (cf 48) 1
      have lz9 := Int32.le_toInt z9
      have uz9 := Int32.toInt_lt z9
      try replace tz9 : z9.toInt = (cf 48).toInt + (1 : Int) := by omega
      refine px_put S k_Mpg hT hw 0 0 48 rfl rfl (by decide) m10_39 rfl rfl rfl (Nat.le_of_ble_eq_true rfl) d_Mpg_lay_81 (w' := wdP cs h r g tf ta pf na ma wa (upd (upd cf 48 z9) 54 z7) (va_up (va_up (va_up (va_up ca 49 (upd (ca 49) (cf 48).toNatClampNeg (vp_nar .byte z1))) 50 (upd ((va_up ca 49 (upd (ca 49) (cf 48).toNatClampNeg (vp_nar .byte z1))) 50) (cf 48).toNatClampNeg (vp_nar .boolean 0))) 51 (upd ((va_up (va_up ca 49 (upd (ca 49) (cf 48).toNatClampNeg (vp_nar .byte z1))) 50 (upd ((va_up ca 49 (upd (ca 49) (cf 48).toNatClampNeg (vp_nar .byte z1))) 50) (cf 48).toNatClampNeg (vp_nar .boolean 0))) 51) (cf 48).toNatClampNeg (cf 54))) 52 (upd ((va_up (va_up (va_up ca 49 (upd (ca 49) (cf 48).toNatClampNeg (vp_nar .byte z1))) 50 (upd ((va_up ca 49 (upd (ca 49) (cf 48).toNatClampNeg (vp_nar .byte z1))) 50) (cf 48).toNatClampNeg (vp_nar .boolean 0))) 51 (upd ((va_up (va_up ca 49 (upd (ca 49) (cf 48).toNatClampNeg (vp_nar .byte z1))) 50 (upd ((va_up ca 49 (upd (ca 49) (cf 48).toNatClampNeg (vp_nar .byte z1))) 50) (cf 48).toNatClampNeg (vp_nar .boolean 0))) 51) (cf 48).toNatClampNeg (cf 54))) 52) (cf 48).toNatClampNeg p1)) ef ea xf xa) (ps' := [wdP cs h r g tf ta pf na ma wa (upd (upd cf 48 z9) 54 z7) (va_up (va_up (va_up (va_up ca 49 (upd (ca 49) (cf 48).toNatClampNeg (vp_nar .byte z1))) 50 (upd ((va_up ca 49 (upd (ca 49) (cf 48).toNatClampNeg (vp_nar .byte z1))) 50) (cf 48).toNatClampNeg (vp_nar .boolean 0))) 51 (upd ((va_up (va_up ca 49 (upd (ca 49) (cf 48).toNatClampNeg (vp_nar .byte z1))) 50 (upd ((va_up ca 49 (upd (ca 49) (cf 48).toNatClampNeg (vp_nar .byte z1))) 50) (cf 48).toNatClampNeg (vp_nar .boolean 0))) 51) (cf 48).toNatClampNeg (cf 54))) 52 (upd ((va_up (va_up (va_up ca 49 (upd (ca 49) (cf 48).toNatClampNeg (vp_nar .byte z1))) 50 (upd ((va_up ca 49 (upd (ca 49) (cf 48).toNatClampNeg (vp_nar .byte z1))) 50) (cf 48).toNatClampNeg (vp_nar .boolean 0))) 51 (upd ((va_up (va_up ca 49 (upd (ca 49) (cf 48).toNatClampNeg (vp_nar .byte z1))) 50 (upd ((va_up ca 49 (upd (ca 49) (cf 48).toNatClampNeg (vp_nar .byte z1))) 50) (cf 48).toNatClampNeg (vp_nar .boolean 0))) 51) (cf 48).toNatClampNeg (cf 54))) 52) (cf 48).toNatClampNeg p1)) ef ea xf xa]) rfl rfl (fun H locs hw => ?_)
      refine lv_aload_n S.x S.b d_Mpg_lay_84 rfl (lv_at hl 0 rfl) ?_
      refine px_get S k_Mpg hT hw 0 0 48 (v := .int z9) rfl rfl rfl (by decide) m10_39 d_Mpg_lay_85 ?_
      refine lv_iconst (v := 1) S.x S.b d_Mpg_lay_88 (by decide) ?_
      refine lv_isub S.x S.b d_Mpg_lay_89 ?_
      refine lv_topi (fun z10 ez10 => ?_)
      have tz10 : z10.toInt = (z9.toInt - (1 : Int) + 2147483648) % 4294967296 - 2147483648 := by rw [ez10]; exact i_sub z9 1
      have lz10 := Int32.le_toInt z10
      have uz10 := Int32.toInt_lt z10
      try replace tz10 : z10.toInt = z9.toInt - (1 : Int) := by omega
      exact px_iret (v := z10) S hr rfl hlk hAe hw (Nat.le_of_ble_eq_true rfl) (Nat.le_of_ble_eq_true rfl) (⟨(upd (upd cf 48 z9) 54 z7), (va_up (va_up (va_up (va_up ca 49 (upd (ca 49) (cf 48).toNatClampNeg (vp_nar .byte z1))) 50 (upd ((va_up ca 49 (upd (ca 49) (cf 48).toNatClampNeg (vp_nar .byte z1))) 50) (cf 48).toNatClampNeg (vp_nar .boolean 0))) 51 (upd ((va_up (va_up ca 49 (upd (ca 49) (cf 48).toNatClampNeg (vp_nar .byte z1))) 50 (upd ((va_up ca 49 (upd (ca 49) (cf 48).toNatClampNeg (vp_nar .byte z1))) 50) (cf 48).toNatClampNeg (vp_nar .boolean 0))) 51) (cf 48).toNatClampNeg (cf 54))) 52 (upd ((va_up (va_up (va_up ca 49 (upd (ca 49) (cf 48).toNatClampNeg (vp_nar .byte z1))) 50 (upd ((va_up ca 49 (upd (ca 49) (cf 48).toNatClampNeg (vp_nar .byte z1))) 50) (cf 48).toNatClampNeg (vp_nar .boolean 0))) 51 (upd ((va_up (va_up ca 49 (upd (ca 49) (cf 48).toNatClampNeg (vp_nar .byte z1))) 50 (upd ((va_up ca 49 (upd (ca 49) (cf 48).toNatClampNeg (vp_nar .byte z1))) 50) (cf 48).toNatClampNeg (vp_nar .boolean 0))) 51) (cf 48).toNatClampNeg (cf 54))) 52) (cf 48).toNatClampNeg p1)), rfl, (show z10.toInt = (cf 48).toInt from by first | exact oz_9a9b2fbcd1 tz9 tz10 | omega), (show z9.toInt = (cf 48).toInt + 1 from by first | exact oz_037caa6b79 tz9 | omega), (show (cf 54).toInt ≤ z7.toInt from by first | exact oz_722013f622 tz7 g4 | omega), (show z7.toInt ≤ (cf 54).toInt + 4096 from by first | exact oz_6170a7c7f1 tz7 g5 | omega), (show p0.toInt ≤ 3 → z7.toInt = (cf 54).toInt + p1.toInt from by first | exact fun q9 => tz7 | omega), (show 4 ≤ p0.toInt → z7.toInt = (cf 54).toInt + 2 from by omega), (show (cf 30).toInt = (cf 30).toInt from rfl), (show (cf 31).toInt = (cf 31).toInt from rfl), (show (cf 33).toInt = (cf 33).toInt from rfl), (show (cf 37).toInt = (cf 37).toInt from rfl), (show (cf 38).toInt = (cf 38).toInt from rfl), (show (cf 41).toInt = (cf 41).toInt from rfl), (show (cf 42).toInt = (cf 42).toInt from rfl), (show (cf 43).toInt = (cf 43).toInt from rfl), (show (cf 44).toInt = (cf 44).toInt from rfl), (show (cf 45).toInt = (cf 45).toInt from rfl), (show (cf 46).toInt = (cf 46).toInt from rfl), (show (cf 47).toInt = (cf 47).toInt from rfl), (show (cf 55).toInt = (cf 55).toInt from rfl), (show (cf 57).toInt = (cf 57).toInt from rfl), (show (cf 58).toInt = (cf 58).toInt from rfl), (show (cf 59).toInt = (cf 59).toInt from rfl), (show LyU ca (va_up (va_up (va_up (va_up ca 49 (upd (ca 49) (cf 48).toNatClampNeg (vp_nar .byte z1))) 50 (upd ((va_up ca 49 (upd (ca 49) (cf 48).toNatClampNeg (vp_nar .byte z1))) 50) (cf 48).toNatClampNeg (vp_nar .boolean 0))) 51 (upd ((va_up (va_up ca 49 (upd (ca 49) (cf 48).toNatClampNeg (vp_nar .byte z1))) 50 (upd ((va_up ca 49 (upd (ca 49) (cf 48).toNatClampNeg (vp_nar .byte z1))) 50) (cf 48).toNatClampNeg (vp_nar .boolean 0))) 51) (cf 48).toNatClampNeg (cf 54))) 52 (upd ((va_up (va_up (va_up ca 49 (upd (ca 49) (cf 48).toNatClampNeg (vp_nar .byte z1))) 50 (upd ((va_up ca 49 (upd (ca 49) (cf 48).toNatClampNeg (vp_nar .byte z1))) 50) (cf 48).toNatClampNeg (vp_nar .boolean 0))) 51 (upd ((va_up (va_up ca 49 (upd (ca 49) (cf 48).toNatClampNeg (vp_nar .byte z1))) 50 (upd ((va_up ca 49 (upd (ca 49) (cf 48).toNatClampNeg (vp_nar .byte z1))) 50) (cf 48).toNatClampNeg (vp_nar .boolean 0))) 51) (cf 48).toNatClampNeg (cf 54))) 52) (cf 48).toNatClampNeg p1)) (cf 48) p0 (cf 54) p1 (txo (cf 43).toInt) from (lyu_mk (by first | (unfold txo; rw [if_pos (by omega)]; rfl) | (unfold txo; rw [if_neg (by omega)]; rfl)) (by assumption) rfl rfl rfl rfl)), (show R_mp_lay p0 p1 cf ca (upd (upd cf 48 z9) 54 z7) (va_up (va_up (va_up (va_up ca 49 (upd (ca 49) (cf 48).toNatClampNeg (vp_nar .byte z1))) 50 (upd ((va_up ca 49 (upd (ca 49) (cf 48).toNatClampNeg (vp_nar .byte z1))) 50) (cf 48).toNatClampNeg (vp_nar .boolean 0))) 51 (upd ((va_up (va_up ca 49 (upd (ca 49) (cf 48).toNatClampNeg (vp_nar .byte z1))) 50 (upd ((va_up ca 49 (upd (ca 49) (cf 48).toNatClampNeg (vp_nar .byte z1))) 50) (cf 48).toNatClampNeg (vp_nar .boolean 0))) 51) (cf 48).toNatClampNeg (cf 54))) 52 (upd ((va_up (va_up (va_up ca 49 (upd (ca 49) (cf 48).toNatClampNeg (vp_nar .byte z1))) 50 (upd ((va_up ca 49 (upd (ca 49) (cf 48).toNatClampNeg (vp_nar .byte z1))) 50) (cf 48).toNatClampNeg (vp_nar .boolean 0))) 51 (upd ((va_up (va_up ca 49 (upd (ca 49) (cf 48).toNatClampNeg (vp_nar .byte z1))) 50 (upd ((va_up ca 49 (upd (ca 49) (cf 48).toNatClampNeg (vp_nar .byte z1))) 50) (cf 48).toNatClampNeg (vp_nar .boolean 0))) 51) (cf 48).toNatClampNeg (cf 54))) 52) (cf 48).toNatClampNeg p1)) z10 from (Or.inl ⟨z1, ez1, Or.inl ⟨nc2, Or.inl ⟨nc4, z7, ez7, z9, ez9, z10, ez10, rfl, rfl, rfl⟩⟩⟩))⟩) d_Mpg_lay_90
    · have nc4 : ¬ p0.toInt < (4 : Int) := mt (i_lt (x := p0) (y := 4)).mpr c4
      refine lv_iconst (v := 2) S.x S.b d_Mpg_lay_65 (by decide) ?_
      refine lv_goto (tgt := 70) S.x S.b d_Mpg_lay_66 (by decide) ?_
      refine lv_iadd S.x S.b d_Mpg_lay_70 ?_
      have lr11 := Int32.le_toInt (cf 54)
      have ur11 := Int32.toInt_lt (cf 54)
      refine lv_topi (fun z12 ez12 => ?_)
      have tz12 : z12.toInt = ((cf 54).toInt + (2 : Int) + 2147483648) % 4294967296 - 2147483648 := by rw [ez12]; exact i_add (cf 54) 2
      have lz12 := Int32.le_toInt z12
      have uz12 := Int32.toInt_lt z12
      try replace tz12 : z12.toInt = (cf 54).toInt + (2 : Int) := by omega
      refine px_put S k_Mpg hT hw 0 0 54 rfl rfl (by decide) m10_49 rfl rfl rfl (Nat.le_of_ble_eq_true rfl) d_Mpg_lay_71 (w' := wdP cs h r g tf ta pf na ma wa (upd cf 54 z12) (va_up (va_up (va_up (va_up ca 49 (upd (ca 49) (cf 48).toNatClampNeg (vp_nar .byte z1))) 50 (upd ((va_up ca 49 (upd (ca 49) (cf 48).toNatClampNeg (vp_nar .byte z1))) 50) (cf 48).toNatClampNeg (vp_nar .boolean 0))) 51 (upd ((va_up (va_up ca 49 (upd (ca 49) (cf 48).toNatClampNeg (vp_nar .byte z1))) 50 (upd ((va_up ca 49 (upd (ca 49) (cf 48).toNatClampNeg (vp_nar .byte z1))) 50) (cf 48).toNatClampNeg (vp_nar .boolean 0))) 51) (cf 48).toNatClampNeg (cf 54))) 52 (upd ((va_up (va_up (va_up ca 49 (upd (ca 49) (cf 48).toNatClampNeg (vp_nar .byte z1))) 50 (upd ((va_up ca 49 (upd (ca 49) (cf 48).toNatClampNeg (vp_nar .byte z1))) 50) (cf 48).toNatClampNeg (vp_nar .boolean 0))) 51 (upd ((va_up (va_up ca 49 (upd (ca 49) (cf 48).toNatClampNeg (vp_nar .byte z1))) 50 (upd ((va_up ca 49 (upd (ca 49) (cf 48).toNatClampNeg (vp_nar .byte z1))) 50) (cf 48).toNatClampNeg (vp_nar .boolean 0))) 51) (cf 48).toNatClampNeg (cf 54))) 52) (cf 48).toNatClampNeg p1)) ef ea xf xa) (ps' := [wdP cs h r g tf ta pf na ma wa (upd cf 54 z12) (va_up (va_up (va_up (va_up ca 49 (upd (ca 49) (cf 48).toNatClampNeg (vp_nar .byte z1))) 50 (upd ((va_up ca 49 (upd (ca 49) (cf 48).toNatClampNeg (vp_nar .byte z1))) 50) (cf 48).toNatClampNeg (vp_nar .boolean 0))) 51 (upd ((va_up (va_up ca 49 (upd (ca 49) (cf 48).toNatClampNeg (vp_nar .byte z1))) 50 (upd ((va_up ca 49 (upd (ca 49) (cf 48).toNatClampNeg (vp_nar .byte z1))) 50) (cf 48).toNatClampNeg (vp_nar .boolean 0))) 51) (cf 48).toNatClampNeg (cf 54))) 52 (upd ((va_up (va_up (va_up ca 49 (upd (ca 49) (cf 48).toNatClampNeg (vp_nar .byte z1))) 50 (upd ((va_up ca 49 (upd (ca 49) (cf 48).toNatClampNeg (vp_nar .byte z1))) 50) (cf 48).toNatClampNeg (vp_nar .boolean 0))) 51 (upd ((va_up (va_up ca 49 (upd (ca 49) (cf 48).toNatClampNeg (vp_nar .byte z1))) 50 (upd ((va_up ca 49 (upd (ca 49) (cf 48).toNatClampNeg (vp_nar .byte z1))) 50) (cf 48).toNatClampNeg (vp_nar .boolean 0))) 51) (cf 48).toNatClampNeg (cf 54))) 52) (cf 48).toNatClampNeg p1)) ef ea xf xa]) rfl rfl (fun H locs hw => ?_)
      refine lv_aload_n S.x S.b d_Mpg_lay_74 rfl (lv_at hl 0 rfl) ?_
      refine lv_dup S.x S.b d_Mpg_lay_75 rfl ?_
      refine px_get S k_Mpg hT hw 0 0 48 (v := .int (cf 48)) rfl rfl rfl (by decide) m10_39 d_Mpg_lay_76 ?_
      refine lv_iconst (v := 1) S.x S.b d_Mpg_lay_79 (by decide) ?_
      refine lv_iadd S.x S.b d_Mpg_lay_80 ?_
      have lr13 := Int32.le_toInt (cf 48)
      have ur13 := Int32.toInt_lt (cf 48)
      refine lv_topi (fun z14 ez14 => ?_)
      have tz14 : z14.toInt = ((cf 48).toInt + (1 : Int) + 2147483648) % 4294967296 - 2147483648 := by rw [ez14]; exact i_add (cf 48) 1
      have lz14 := Int32.le_toInt z14
      have uz14 := Int32.toInt_lt z14
      try replace tz14 : z14.toInt = (cf 48).toInt + (1 : Int) := by omega
      refine px_put S k_Mpg hT hw 0 0 48 rfl rfl (by decide) m10_39 rfl rfl rfl (Nat.le_of_ble_eq_true rfl) d_Mpg_lay_81 (w' := wdP cs h r g tf ta pf na ma wa (upd (upd cf 48 z14) 54 z12) (va_up (va_up (va_up (va_up ca 49 (upd (ca 49) (cf 48).toNatClampNeg (vp_nar .byte z1))) 50 (upd ((va_up ca 49 (upd (ca 49) (cf 48).toNatClampNeg (vp_nar .byte z1))) 50) (cf 48).toNatClampNeg (vp_nar .boolean 0))) 51 (upd ((va_up (va_up ca 49 (upd (ca 49) (cf 48).toNatClampNeg (vp_nar .byte z1))) 50 (upd ((va_up ca 49 (upd (ca 49) (cf 48).toNatClampNeg (vp_nar .byte z1))) 50) (cf 48).toNatClampNeg (vp_nar .boolean 0))) 51) (cf 48).toNatClampNeg (cf 54))) 52 (upd ((va_up (va_up (va_up ca 49 (upd (ca 49) (cf 48).toNatClampNeg (vp_nar .byte z1))) 50 (upd ((va_up ca 49 (upd (ca 49) (cf 48).toNatClampNeg (vp_nar .byte z1))) 50) (cf 48).toNatClampNeg (vp_nar .boolean 0))) 51 (upd ((va_up (va_up ca 49 (upd (ca 49) (cf 48).toNatClampNeg (vp_nar .byte z1))) 50 (upd ((va_up ca 49 (upd (ca 49) (cf 48).toNatClampNeg (vp_nar .byte z1))) 50) (cf 48).toNatClampNeg (vp_nar .boolean 0))) 51) (cf 48).toNatClampNeg (cf 54))) 52) (cf 48).toNatClampNeg p1)) ef ea xf xa) (ps' := [wdP cs h r g tf ta pf na ma wa (upd (upd cf 48 z14) 54 z12) (va_up (va_up (va_up (va_up ca 49 (upd (ca 49) (cf 48).toNatClampNeg (vp_nar .byte z1))) 50 (upd ((va_up ca 49 (upd (ca 49) (cf 48).toNatClampNeg (vp_nar .byte z1))) 50) (cf 48).toNatClampNeg (vp_nar .boolean 0))) 51 (upd ((va_up (va_up ca 49 (upd (ca 49) (cf 48).toNatClampNeg (vp_nar .byte z1))) 50 (upd ((va_up ca 49 (upd (ca 49) (cf 48).toNatClampNeg (vp_nar .byte z1))) 50) (cf 48).toNatClampNeg (vp_nar .boolean 0))) 51) (cf 48).toNatClampNeg (cf 54))) 52 (upd ((va_up (va_up (va_up ca 49 (upd (ca 49) (cf 48).toNatClampNeg (vp_nar .byte z1))) 50 (upd ((va_up ca 49 (upd (ca 49) (cf 48).toNatClampNeg (vp_nar .byte z1))) 50) (cf 48).toNatClampNeg (vp_nar .boolean 0))) 51 (upd ((va_up (va_up ca 49 (upd (ca 49) (cf 48).toNatClampNeg (vp_nar .byte z1))) 50 (upd ((va_up ca 49 (upd (ca 49) (cf 48).toNatClampNeg (vp_nar .byte z1))) 50) (cf 48).toNatClampNeg (vp_nar .boolean 0))) 51) (cf 48).toNatClampNeg (cf 54))) 52) (cf 48).toNatClampNeg p1)) ef ea xf xa]) rfl rfl (fun H locs hw => ?_)
      refine lv_aload_n S.x S.b d_Mpg_lay_84 rfl (lv_at hl 0 rfl) ?_
      refine px_get S k_Mpg hT hw 0 0 48 (v := .int z14) rfl rfl rfl (by decide) m10_39 d_Mpg_lay_85 ?_
      refine lv_iconst (v := 1) S.x S.b d_Mpg_lay_88 (by decide) ?_
      refine lv_isub S.x S.b d_Mpg_lay_89 ?_
      refine lv_topi (fun z15 ez15 => ?_)
      have tz15 : z15.toInt = (z14.toInt - (1 : Int) + 2147483648) % 4294967296 - 2147483648 := by rw [ez15]; exact i_sub z14 1
      have lz15 := Int32.le_toInt z15
      have uz15 := Int32.toInt_lt z15
      try replace tz15 : z15.toInt = z14.toInt - (1 : Int) := by omega
      exact px_iret (v := z15) S hr rfl hlk hAe hw (Nat.le_of_ble_eq_true rfl) (Nat.le_of_ble_eq_true rfl) (⟨(upd (upd cf 48 z14) 54 z12), (va_up (va_up (va_up (va_up ca 49 (upd (ca 49) (cf 48).toNatClampNeg (vp_nar .byte z1))) 50 (upd ((va_up ca 49 (upd (ca 49) (cf 48).toNatClampNeg (vp_nar .byte z1))) 50) (cf 48).toNatClampNeg (vp_nar .boolean 0))) 51 (upd ((va_up (va_up ca 49 (upd (ca 49) (cf 48).toNatClampNeg (vp_nar .byte z1))) 50 (upd ((va_up ca 49 (upd (ca 49) (cf 48).toNatClampNeg (vp_nar .byte z1))) 50) (cf 48).toNatClampNeg (vp_nar .boolean 0))) 51) (cf 48).toNatClampNeg (cf 54))) 52 (upd ((va_up (va_up (va_up ca 49 (upd (ca 49) (cf 48).toNatClampNeg (vp_nar .byte z1))) 50 (upd ((va_up ca 49 (upd (ca 49) (cf 48).toNatClampNeg (vp_nar .byte z1))) 50) (cf 48).toNatClampNeg (vp_nar .boolean 0))) 51 (upd ((va_up (va_up ca 49 (upd (ca 49) (cf 48).toNatClampNeg (vp_nar .byte z1))) 50 (upd ((va_up ca 49 (upd (ca 49) (cf 48).toNatClampNeg (vp_nar .byte z1))) 50) (cf 48).toNatClampNeg (vp_nar .boolean 0))) 51) (cf 48).toNatClampNeg (cf 54))) 52) (cf 48).toNatClampNeg p1)), rfl, (show z15.toInt = (cf 48).toInt from by first | exact oz_9a9b2fbcd1 tz14 tz15 | omega), (show z14.toInt = (cf 48).toInt + 1 from by first | exact oz_037caa6b79 tz14 | omega), (show (cf 54).toInt ≤ z12.toInt from by first | exact oz_d20558dcd1 tz12 | omega), (show z12.toInt ≤ (cf 54).toInt + 4096 from by first | exact oz_36e32de4fa tz12 | omega), (show p0.toInt ≤ 3 → z12.toInt = (cf 54).toInt + p1.toInt from by omega), (show 4 ≤ p0.toInt → z12.toInt = (cf 54).toInt + 2 from by first | exact fun q9 => oz_08423f1fa4 tz12 | omega), (show (cf 30).toInt = (cf 30).toInt from rfl), (show (cf 31).toInt = (cf 31).toInt from rfl), (show (cf 33).toInt = (cf 33).toInt from rfl), (show (cf 37).toInt = (cf 37).toInt from rfl), (show (cf 38).toInt = (cf 38).toInt from rfl), (show (cf 41).toInt = (cf 41).toInt from rfl), (show (cf 42).toInt = (cf 42).toInt from rfl), (show (cf 43).toInt = (cf 43).toInt from rfl), (show (cf 44).toInt = (cf 44).toInt from rfl), (show (cf 45).toInt = (cf 45).toInt from rfl), (show (cf 46).toInt = (cf 46).toInt from rfl), (show (cf 47).toInt = (cf 47).toInt from rfl), (show (cf 55).toInt = (cf 55).toInt from rfl), (show (cf 57).toInt = (cf 57).toInt from rfl), (show (cf 58).toInt = (cf 58).toInt from rfl), (show (cf 59).toInt = (cf 59).toInt from rfl), (show LyU ca (va_up (va_up (va_up (va_up ca 49 (upd (ca 49) (cf 48).toNatClampNeg (vp_nar .byte z1))) 50 (upd ((va_up ca 49 (upd (ca 49) (cf 48).toNatClampNeg (vp_nar .byte z1))) 50) (cf 48).toNatClampNeg (vp_nar .boolean 0))) 51 (upd ((va_up (va_up ca 49 (upd (ca 49) (cf 48).toNatClampNeg (vp_nar .byte z1))) 50 (upd ((va_up ca 49 (upd (ca 49) (cf 48).toNatClampNeg (vp_nar .byte z1))) 50) (cf 48).toNatClampNeg (vp_nar .boolean 0))) 51) (cf 48).toNatClampNeg (cf 54))) 52 (upd ((va_up (va_up (va_up ca 49 (upd (ca 49) (cf 48).toNatClampNeg (vp_nar .byte z1))) 50 (upd ((va_up ca 49 (upd (ca 49) (cf 48).toNatClampNeg (vp_nar .byte z1))) 50) (cf 48).toNatClampNeg (vp_nar .boolean 0))) 51 (upd ((va_up (va_up ca 49 (upd (ca 49) (cf 48).toNatClampNeg (vp_nar .byte z1))) 50 (upd ((va_up ca 49 (upd (ca 49) (cf 48).toNatClampNeg (vp_nar .byte z1))) 50) (cf 48).toNatClampNeg (vp_nar .boolean 0))) 51) (cf 48).toNatClampNeg (cf 54))) 52) (cf 48).toNatClampNeg p1)) (cf 48) p0 (cf 54) p1 (txo (cf 43).toInt) from (lyu_mk (by first | (unfold txo; rw [if_pos (by omega)]; rfl) | (unfold txo; rw [if_neg (by omega)]; rfl)) (by assumption) rfl rfl rfl rfl)), (show R_mp_lay p0 p1 cf ca (upd (upd cf 48 z14) 54 z12) (va_up (va_up (va_up (va_up ca 49 (upd (ca 49) (cf 48).toNatClampNeg (vp_nar .byte z1))) 50 (upd ((va_up ca 49 (upd (ca 49) (cf 48).toNatClampNeg (vp_nar .byte z1))) 50) (cf 48).toNatClampNeg (vp_nar .boolean 0))) 51 (upd ((va_up (va_up ca 49 (upd (ca 49) (cf 48).toNatClampNeg (vp_nar .byte z1))) 50 (upd ((va_up ca 49 (upd (ca 49) (cf 48).toNatClampNeg (vp_nar .byte z1))) 50) (cf 48).toNatClampNeg (vp_nar .boolean 0))) 51) (cf 48).toNatClampNeg (cf 54))) 52 (upd ((va_up (va_up (va_up ca 49 (upd (ca 49) (cf 48).toNatClampNeg (vp_nar .byte z1))) 50 (upd ((va_up ca 49 (upd (ca 49) (cf 48).toNatClampNeg (vp_nar .byte z1))) 50) (cf 48).toNatClampNeg (vp_nar .boolean 0))) 51 (upd ((va_up (va_up ca 49 (upd (ca 49) (cf 48).toNatClampNeg (vp_nar .byte z1))) 50 (upd ((va_up ca 49 (upd (ca 49) (cf 48).toNatClampNeg (vp_nar .byte z1))) 50) (cf 48).toNatClampNeg (vp_nar .boolean 0))) 51) (cf 48).toNatClampNeg (cf 54))) 52) (cf 48).toNatClampNeg p1)) z15 from (Or.inl ⟨z1, ez1, Or.inl ⟨nc2, Or.inr ⟨nc4, z12, ez12, z14, ez14, z15, ez15, rfl, rfl, rfl⟩⟩⟩))⟩) d_Mpg_lay_90
  · have nc2 : ¬ (0 : Int) ≤ (cf 43).toInt := mt (i_le (x := 0) (y := (cf 43))).mpr c2
    refine lv_iconst (v := 1) S.x S.b d_Mpg_lay_26 (by decide) ?_
    refine lv_goto (tgt := 31) S.x S.b d_Mpg_lay_27 (by decide) ?_
    refine px_zast S hT hw 0 29 (n := 1100) (f := ((va_up ca 49 (upd (ca 49) (cf 48).toNatClampNeg (vp_nar .byte z1))) 50)) (x := (cf 48)) (y := 1) rfl gp_50 (vp_in_iff.mpr (by constructor <;> omega)) d_Mpg_lay_31 (w' := wdP cs h r g tf ta pf na ma wa cf (va_up (va_up ca 49 (upd (ca 49) (cf 48).toNatClampNeg (vp_nar .byte z1))) 50 (upd ((va_up ca 49 (upd (ca 49) (cf 48).toNatClampNeg (vp_nar .byte z1))) 50) (cf 48).toNatClampNeg (vp_nar .boolean 1))) ef ea xf xa) (ps' := [wdP cs h r g tf ta pf na ma wa cf (va_up (va_up ca 49 (upd (ca 49) (cf 48).toNatClampNeg (vp_nar .byte z1))) 50 (upd ((va_up ca 49 (upd (ca 49) (cf 48).toNatClampNeg (vp_nar .byte z1))) 50) (cf 48).toNatClampNeg (vp_nar .boolean 1))) ef ea xf xa]) sp_50 rfl (fun H locs hw => ?_)
    refine lv_aload_n S.x S.b d_Mpg_lay_32 rfl (lv_at hl 0 rfl) ?_
    refine px_get S k_Mpg hT hw 0 0 51 (v := .ref (r 51)) rfl rfl rfl (by decide) m10_44 d_Mpg_lay_33 ?_
    refine lv_aload_n S.x S.b d_Mpg_lay_36 rfl (lv_at hl 0 rfl) ?_
    refine px_get S k_Mpg hT hw 0 0 48 (v := .int (cf 48)) rfl rfl rfl (by decide) m10_39 d_Mpg_lay_37 ?_
    refine lv_aload_n S.x S.b d_Mpg_lay_40 rfl (lv_at hl 0 rfl) ?_
    refine px_get S k_Mpg hT hw 0 0 54 (v := .int (cf 54)) rfl rfl rfl (by decide) m10_49 d_Mpg_lay_41 ?_
    refine px_iast S hT hw 0 30 (n := 1100) (f := ((va_up (va_up ca 49 (upd (ca 49) (cf 48).toNatClampNeg (vp_nar .byte z1))) 50 (upd ((va_up ca 49 (upd (ca 49) (cf 48).toNatClampNeg (vp_nar .byte z1))) 50) (cf 48).toNatClampNeg (vp_nar .boolean 1))) 51)) (x := (cf 48)) (y := (cf 54)) rfl gp_51 (vp_in_iff.mpr (by constructor <;> omega)) d_Mpg_lay_44 (w' := wdP cs h r g tf ta pf na ma wa cf (va_up (va_up (va_up ca 49 (upd (ca 49) (cf 48).toNatClampNeg (vp_nar .byte z1))) 50 (upd ((va_up ca 49 (upd (ca 49) (cf 48).toNatClampNeg (vp_nar .byte z1))) 50) (cf 48).toNatClampNeg (vp_nar .boolean 1))) 51 (upd ((va_up (va_up ca 49 (upd (ca 49) (cf 48).toNatClampNeg (vp_nar .byte z1))) 50 (upd ((va_up ca 49 (upd (ca 49) (cf 48).toNatClampNeg (vp_nar .byte z1))) 50) (cf 48).toNatClampNeg (vp_nar .boolean 1))) 51) (cf 48).toNatClampNeg (cf 54))) ef ea xf xa) (ps' := [wdP cs h r g tf ta pf na ma wa cf (va_up (va_up (va_up ca 49 (upd (ca 49) (cf 48).toNatClampNeg (vp_nar .byte z1))) 50 (upd ((va_up ca 49 (upd (ca 49) (cf 48).toNatClampNeg (vp_nar .byte z1))) 50) (cf 48).toNatClampNeg (vp_nar .boolean 1))) 51 (upd ((va_up (va_up ca 49 (upd (ca 49) (cf 48).toNatClampNeg (vp_nar .byte z1))) 50 (upd ((va_up ca 49 (upd (ca 49) (cf 48).toNatClampNeg (vp_nar .byte z1))) 50) (cf 48).toNatClampNeg (vp_nar .boolean 1))) 51) (cf 48).toNatClampNeg (cf 54))) ef ea xf xa]) sp_51 rfl (fun H locs hw => ?_)
    refine lv_aload_n S.x S.b d_Mpg_lay_45 rfl (lv_at hl 0 rfl) ?_
    refine px_get S k_Mpg hT hw 0 0 52 (v := .ref (r 52)) rfl rfl rfl (by decide) m10_46 d_Mpg_lay_46 ?_
    refine lv_aload_n S.x S.b d_Mpg_lay_49 rfl (lv_at hl 0 rfl) ?_
    refine px_get S k_Mpg hT hw 0 0 48 (v := .int (cf 48)) rfl rfl rfl (by decide) m10_39 d_Mpg_lay_50 ?_
    refine lv_iload_n S.x S.b d_Mpg_lay_53 rfl (lv_at hl 2 rfl) ?_
    refine px_iast S hT hw 0 31 (n := 1100) (f := ((va_up (va_up (va_up ca 49 (upd (ca 49) (cf 48).toNatClampNeg (vp_nar .byte z1))) 50 (upd ((va_up ca 49 (upd (ca 49) (cf 48).toNatClampNeg (vp_nar .byte z1))) 50) (cf 48).toNatClampNeg (vp_nar .boolean 1))) 51 (upd ((va_up (va_up ca 49 (upd (ca 49) (cf 48).toNatClampNeg (vp_nar .byte z1))) 50 (upd ((va_up ca 49 (upd (ca 49) (cf 48).toNatClampNeg (vp_nar .byte z1))) 50) (cf 48).toNatClampNeg (vp_nar .boolean 1))) 51) (cf 48).toNatClampNeg (cf 54))) 52)) (x := (cf 48)) (y := p1) rfl gp_52 (vp_in_iff.mpr (by constructor <;> omega)) d_Mpg_lay_54 (w' := wdP cs h r g tf ta pf na ma wa cf (va_up (va_up (va_up (va_up ca 49 (upd (ca 49) (cf 48).toNatClampNeg (vp_nar .byte z1))) 50 (upd ((va_up ca 49 (upd (ca 49) (cf 48).toNatClampNeg (vp_nar .byte z1))) 50) (cf 48).toNatClampNeg (vp_nar .boolean 1))) 51 (upd ((va_up (va_up ca 49 (upd (ca 49) (cf 48).toNatClampNeg (vp_nar .byte z1))) 50 (upd ((va_up ca 49 (upd (ca 49) (cf 48).toNatClampNeg (vp_nar .byte z1))) 50) (cf 48).toNatClampNeg (vp_nar .boolean 1))) 51) (cf 48).toNatClampNeg (cf 54))) 52 (upd ((va_up (va_up (va_up ca 49 (upd (ca 49) (cf 48).toNatClampNeg (vp_nar .byte z1))) 50 (upd ((va_up ca 49 (upd (ca 49) (cf 48).toNatClampNeg (vp_nar .byte z1))) 50) (cf 48).toNatClampNeg (vp_nar .boolean 1))) 51 (upd ((va_up (va_up ca 49 (upd (ca 49) (cf 48).toNatClampNeg (vp_nar .byte z1))) 50 (upd ((va_up ca 49 (upd (ca 49) (cf 48).toNatClampNeg (vp_nar .byte z1))) 50) (cf 48).toNatClampNeg (vp_nar .boolean 1))) 51) (cf 48).toNatClampNeg (cf 54))) 52) (cf 48).toNatClampNeg p1)) ef ea xf xa) (ps' := [wdP cs h r g tf ta pf na ma wa cf (va_up (va_up (va_up (va_up ca 49 (upd (ca 49) (cf 48).toNatClampNeg (vp_nar .byte z1))) 50 (upd ((va_up ca 49 (upd (ca 49) (cf 48).toNatClampNeg (vp_nar .byte z1))) 50) (cf 48).toNatClampNeg (vp_nar .boolean 1))) 51 (upd ((va_up (va_up ca 49 (upd (ca 49) (cf 48).toNatClampNeg (vp_nar .byte z1))) 50 (upd ((va_up ca 49 (upd (ca 49) (cf 48).toNatClampNeg (vp_nar .byte z1))) 50) (cf 48).toNatClampNeg (vp_nar .boolean 1))) 51) (cf 48).toNatClampNeg (cf 54))) 52 (upd ((va_up (va_up (va_up ca 49 (upd (ca 49) (cf 48).toNatClampNeg (vp_nar .byte z1))) 50 (upd ((va_up ca 49 (upd (ca 49) (cf 48).toNatClampNeg (vp_nar .byte z1))) 50) (cf 48).toNatClampNeg (vp_nar .boolean 1))) 51 (upd ((va_up (va_up ca 49 (upd (ca 49) (cf 48).toNatClampNeg (vp_nar .byte z1))) 50 (upd ((va_up ca 49 (upd (ca 49) (cf 48).toNatClampNeg (vp_nar .byte z1))) 50) (cf 48).toNatClampNeg (vp_nar .boolean 1))) 51) (cf 48).toNatClampNeg (cf 54))) 52) (cf 48).toNatClampNeg p1)) ef ea xf xa]) sp_52 rfl (fun H locs hw => ?_)
    refine lv_aload_n S.x S.b d_Mpg_lay_55 rfl (lv_at hl 0 rfl) ?_
    refine lv_aload_n S.x S.b d_Mpg_lay_56 rfl (lv_at hl 0 rfl) ?_
    refine px_get S k_Mpg hT hw 0 0 54 (v := .int (cf 54)) rfl rfl rfl (by decide) m10_49 d_Mpg_lay_57 ?_
    refine lv_iload_n S.x S.b d_Mpg_lay_60 rfl (lv_at hl 1 rfl) ?_
    refine lv_iconst (v := 4) S.x S.b d_Mpg_lay_61 (by decide) ?_
    refine lv_icmp_lt (tgt := 69) S.x S.b d_Mpg_lay_62 (by decide) (fun c16 => ?_) (fun c16 => ?_)
    · have nc16 : p0.toInt < (4 : Int) := (i_lt (x := p0) (y := 4)).mp c16
      refine lv_iload_n S.x S.b d_Mpg_lay_69 rfl (lv_at hl 2 rfl) ?_
      refine lv_iadd S.x S.b d_Mpg_lay_70 ?_
      have lr18 := Int32.le_toInt (cf 54)
      have ur18 := Int32.toInt_lt (cf 54)
      refine lv_topi (fun z19 ez19 => ?_)
      have tz19 : z19.toInt = ((cf 54).toInt + p1.toInt + 2147483648) % 4294967296 - 2147483648 := by rw [ez19]; exact i_add (cf 54) p1
      have lz19 := Int32.le_toInt z19
      have uz19 := Int32.toInt_lt z19
      try replace tz19 : z19.toInt = (cf 54).toInt + p1.toInt := by omega
      refine px_put S k_Mpg hT hw 0 0 54 rfl rfl (by decide) m10_49 rfl rfl rfl (Nat.le_of_ble_eq_true rfl) d_Mpg_lay_71 (w' := wdP cs h r g tf ta pf na ma wa (upd cf 54 z19) (va_up (va_up (va_up (va_up ca 49 (upd (ca 49) (cf 48).toNatClampNeg (vp_nar .byte z1))) 50 (upd ((va_up ca 49 (upd (ca 49) (cf 48).toNatClampNeg (vp_nar .byte z1))) 50) (cf 48).toNatClampNeg (vp_nar .boolean 1))) 51 (upd ((va_up (va_up ca 49 (upd (ca 49) (cf 48).toNatClampNeg (vp_nar .byte z1))) 50 (upd ((va_up ca 49 (upd (ca 49) (cf 48).toNatClampNeg (vp_nar .byte z1))) 50) (cf 48).toNatClampNeg (vp_nar .boolean 1))) 51) (cf 48).toNatClampNeg (cf 54))) 52 (upd ((va_up (va_up (va_up ca 49 (upd (ca 49) (cf 48).toNatClampNeg (vp_nar .byte z1))) 50 (upd ((va_up ca 49 (upd (ca 49) (cf 48).toNatClampNeg (vp_nar .byte z1))) 50) (cf 48).toNatClampNeg (vp_nar .boolean 1))) 51 (upd ((va_up (va_up ca 49 (upd (ca 49) (cf 48).toNatClampNeg (vp_nar .byte z1))) 50 (upd ((va_up ca 49 (upd (ca 49) (cf 48).toNatClampNeg (vp_nar .byte z1))) 50) (cf 48).toNatClampNeg (vp_nar .boolean 1))) 51) (cf 48).toNatClampNeg (cf 54))) 52) (cf 48).toNatClampNeg p1)) ef ea xf xa) (ps' := [wdP cs h r g tf ta pf na ma wa (upd cf 54 z19) (va_up (va_up (va_up (va_up ca 49 (upd (ca 49) (cf 48).toNatClampNeg (vp_nar .byte z1))) 50 (upd ((va_up ca 49 (upd (ca 49) (cf 48).toNatClampNeg (vp_nar .byte z1))) 50) (cf 48).toNatClampNeg (vp_nar .boolean 1))) 51 (upd ((va_up (va_up ca 49 (upd (ca 49) (cf 48).toNatClampNeg (vp_nar .byte z1))) 50 (upd ((va_up ca 49 (upd (ca 49) (cf 48).toNatClampNeg (vp_nar .byte z1))) 50) (cf 48).toNatClampNeg (vp_nar .boolean 1))) 51) (cf 48).toNatClampNeg (cf 54))) 52 (upd ((va_up (va_up (va_up ca 49 (upd (ca 49) (cf 48).toNatClampNeg (vp_nar .byte z1))) 50 (upd ((va_up ca 49 (upd (ca 49) (cf 48).toNatClampNeg (vp_nar .byte z1))) 50) (cf 48).toNatClampNeg (vp_nar .boolean 1))) 51 (upd ((va_up (va_up ca 49 (upd (ca 49) (cf 48).toNatClampNeg (vp_nar .byte z1))) 50 (upd ((va_up ca 49 (upd (ca 49) (cf 48).toNatClampNeg (vp_nar .byte z1))) 50) (cf 48).toNatClampNeg (vp_nar .boolean 1))) 51) (cf 48).toNatClampNeg (cf 54))) 52) (cf 48).toNatClampNeg p1)) ef ea xf xa]) rfl rfl (fun H locs hw => ?_)
      refine lv_aload_n S.x S.b d_Mpg_lay_74 rfl (lv_at hl 0 rfl) ?_
      refine lv_dup S.x S.b d_Mpg_lay_75 rfl ?_
      refine px_get S k_Mpg hT hw 0 0 48 (v := .int (cf 48)) rfl rfl rfl (by decide) m10_39 d_Mpg_lay_76 ?_
      refine lv_iconst (v := 1) S.x S.b d_Mpg_lay_79 (by decide) ?_
      refine lv_iadd S.x S.b d_Mpg_lay_80 ?_
      have lr20 := Int32.le_toInt (cf 48)
      have ur20 := Int32.toInt_lt (cf 48)
      refine lv_topi (fun z21 ez21 => ?_)
      have tz21 : z21.toInt = ((cf 48).toInt + (1 : Int) + 2147483648) % 4294967296 - 2147483648 := by rw [ez21]; exact i_add (cf 48) 1
      have lz21 := Int32.le_toInt z21
      have uz21 := Int32.toInt_lt z21
      try replace tz21 : z21.toInt = (cf 48).toInt + (1 : Int) := by omega
      refine px_put S k_Mpg hT hw 0 0 48 rfl rfl (by decide) m10_39 rfl rfl rfl (Nat.le_of_ble_eq_true rfl) d_Mpg_lay_81 (w' := wdP cs h r g tf ta pf na ma wa (upd (upd cf 48 z21) 54 z19) (va_up (va_up (va_up (va_up ca 49 (upd (ca 49) (cf 48).toNatClampNeg (vp_nar .byte z1))) 50 (upd ((va_up ca 49 (upd (ca 49) (cf 48).toNatClampNeg (vp_nar .byte z1))) 50) (cf 48).toNatClampNeg (vp_nar .boolean 1))) 51 (upd ((va_up (va_up ca 49 (upd (ca 49) (cf 48).toNatClampNeg (vp_nar .byte z1))) 50 (upd ((va_up ca 49 (upd (ca 49) (cf 48).toNatClampNeg (vp_nar .byte z1))) 50) (cf 48).toNatClampNeg (vp_nar .boolean 1))) 51) (cf 48).toNatClampNeg (cf 54))) 52 (upd ((va_up (va_up (va_up ca 49 (upd (ca 49) (cf 48).toNatClampNeg (vp_nar .byte z1))) 50 (upd ((va_up ca 49 (upd (ca 49) (cf 48).toNatClampNeg (vp_nar .byte z1))) 50) (cf 48).toNatClampNeg (vp_nar .boolean 1))) 51 (upd ((va_up (va_up ca 49 (upd (ca 49) (cf 48).toNatClampNeg (vp_nar .byte z1))) 50 (upd ((va_up ca 49 (upd (ca 49) (cf 48).toNatClampNeg (vp_nar .byte z1))) 50) (cf 48).toNatClampNeg (vp_nar .boolean 1))) 51) (cf 48).toNatClampNeg (cf 54))) 52) (cf 48).toNatClampNeg p1)) ef ea xf xa) (ps' := [wdP cs h r g tf ta pf na ma wa (upd (upd cf 48 z21) 54 z19) (va_up (va_up (va_up (va_up ca 49 (upd (ca 49) (cf 48).toNatClampNeg (vp_nar .byte z1))) 50 (upd ((va_up ca 49 (upd (ca 49) (cf 48).toNatClampNeg (vp_nar .byte z1))) 50) (cf 48).toNatClampNeg (vp_nar .boolean 1))) 51 (upd ((va_up (va_up ca 49 (upd (ca 49) (cf 48).toNatClampNeg (vp_nar .byte z1))) 50 (upd ((va_up ca 49 (upd (ca 49) (cf 48).toNatClampNeg (vp_nar .byte z1))) 50) (cf 48).toNatClampNeg (vp_nar .boolean 1))) 51) (cf 48).toNatClampNeg (cf 54))) 52 (upd ((va_up (va_up (va_up ca 49 (upd (ca 49) (cf 48).toNatClampNeg (vp_nar .byte z1))) 50 (upd ((va_up ca 49 (upd (ca 49) (cf 48).toNatClampNeg (vp_nar .byte z1))) 50) (cf 48).toNatClampNeg (vp_nar .boolean 1))) 51 (upd ((va_up (va_up ca 49 (upd (ca 49) (cf 48).toNatClampNeg (vp_nar .byte z1))) 50 (upd ((va_up ca 49 (upd (ca 49) (cf 48).toNatClampNeg (vp_nar .byte z1))) 50) (cf 48).toNatClampNeg (vp_nar .boolean 1))) 51) (cf 48).toNatClampNeg (cf 54))) 52) (cf 48).toNatClampNeg p1)) ef ea xf xa]) rfl rfl (fun H locs hw => ?_)
      refine lv_aload_n S.x S.b d_Mpg_lay_84 rfl (lv_at hl 0 rfl) ?_
      refine px_get S k_Mpg hT hw 0 0 48 (v := .int z21) rfl rfl rfl (by decide) m10_39 d_Mpg_lay_85 ?_
      refine lv_iconst (v := 1) S.x S.b d_Mpg_lay_88 (by decide) ?_
      refine lv_isub S.x S.b d_Mpg_lay_89 ?_
      refine lv_topi (fun z22 ez22 => ?_)
      have tz22 : z22.toInt = (z21.toInt - (1 : Int) + 2147483648) % 4294967296 - 2147483648 := by rw [ez22]; exact i_sub z21 1
      have lz22 := Int32.le_toInt z22
      have uz22 := Int32.toInt_lt z22
      try replace tz22 : z22.toInt = z21.toInt - (1 : Int) := by omega
      exact px_iret (v := z22) S hr rfl hlk hAe hw (Nat.le_of_ble_eq_true rfl) (Nat.le_of_ble_eq_true rfl) (⟨(upd (upd cf 48 z21) 54 z19), (va_up (va_up (va_up (va_up ca 49 (upd (ca 49) (cf 48).toNatClampNeg (vp_nar .byte z1))) 50 (upd ((va_up ca 49 (upd (ca 49) (cf 48).toNatClampNeg (vp_nar .byte z1))) 50) (cf 48).toNatClampNeg (vp_nar .boolean 1))) 51 (upd ((va_up (va_up ca 49 (upd (ca 49) (cf 48).toNatClampNeg (vp_nar .byte z1))) 50 (upd ((va_up ca 49 (upd (ca 49) (cf 48).toNatClampNeg (vp_nar .byte z1))) 50) (cf 48).toNatClampNeg (vp_nar .boolean 1))) 51) (cf 48).toNatClampNeg (cf 54))) 52 (upd ((va_up (va_up (va_up ca 49 (upd (ca 49) (cf 48).toNatClampNeg (vp_nar .byte z1))) 50 (upd ((va_up ca 49 (upd (ca 49) (cf 48).toNatClampNeg (vp_nar .byte z1))) 50) (cf 48).toNatClampNeg (vp_nar .boolean 1))) 51 (upd ((va_up (va_up ca 49 (upd (ca 49) (cf 48).toNatClampNeg (vp_nar .byte z1))) 50 (upd ((va_up ca 49 (upd (ca 49) (cf 48).toNatClampNeg (vp_nar .byte z1))) 50) (cf 48).toNatClampNeg (vp_nar .boolean 1))) 51) (cf 48).toNatClampNeg (cf 54))) 52) (cf 48).toNatClampNeg p1)), rfl, (show z22.toInt = (cf 48).toInt from by first | exact oz_9a9b2fbcd1 tz21 tz22 | omega), (show z21.toInt = (cf 48).toInt + 1 from by first | exact oz_037caa6b79 tz21 | omega), (show (cf 54).toInt ≤ z19.toInt from by first | exact oz_722013f622 tz19 g4 | omega), (show z19.toInt ≤ (cf 54).toInt + 4096 from by first | exact oz_6170a7c7f1 tz19 g5 | omega), (show p0.toInt ≤ 3 → z19.toInt = (cf 54).toInt + p1.toInt from by first | exact fun q9 => tz19 | omega), (show 4 ≤ p0.toInt → z19.toInt = (cf 54).toInt + 2 from by omega), (show (cf 30).toInt = (cf 30).toInt from rfl), (show (cf 31).toInt = (cf 31).toInt from rfl), (show (cf 33).toInt = (cf 33).toInt from rfl), (show (cf 37).toInt = (cf 37).toInt from rfl), (show (cf 38).toInt = (cf 38).toInt from rfl), (show (cf 41).toInt = (cf 41).toInt from rfl), (show (cf 42).toInt = (cf 42).toInt from rfl), (show (cf 43).toInt = (cf 43).toInt from rfl), (show (cf 44).toInt = (cf 44).toInt from rfl), (show (cf 45).toInt = (cf 45).toInt from rfl), (show (cf 46).toInt = (cf 46).toInt from rfl), (show (cf 47).toInt = (cf 47).toInt from rfl), (show (cf 55).toInt = (cf 55).toInt from rfl), (show (cf 57).toInt = (cf 57).toInt from rfl), (show (cf 58).toInt = (cf 58).toInt from rfl), (show (cf 59).toInt = (cf 59).toInt from rfl), (show LyU ca (va_up (va_up (va_up (va_up ca 49 (upd (ca 49) (cf 48).toNatClampNeg (vp_nar .byte z1))) 50 (upd ((va_up ca 49 (upd (ca 49) (cf 48).toNatClampNeg (vp_nar .byte z1))) 50) (cf 48).toNatClampNeg (vp_nar .boolean 1))) 51 (upd ((va_up (va_up ca 49 (upd (ca 49) (cf 48).toNatClampNeg (vp_nar .byte z1))) 50 (upd ((va_up ca 49 (upd (ca 49) (cf 48).toNatClampNeg (vp_nar .byte z1))) 50) (cf 48).toNatClampNeg (vp_nar .boolean 1))) 51) (cf 48).toNatClampNeg (cf 54))) 52 (upd ((va_up (va_up (va_up ca 49 (upd (ca 49) (cf 48).toNatClampNeg (vp_nar .byte z1))) 50 (upd ((va_up ca 49 (upd (ca 49) (cf 48).toNatClampNeg (vp_nar .byte z1))) 50) (cf 48).toNatClampNeg (vp_nar .boolean 1))) 51 (upd ((va_up (va_up ca 49 (upd (ca 49) (cf 48).toNatClampNeg (vp_nar .byte z1))) 50 (upd ((va_up ca 49 (upd (ca 49) (cf 48).toNatClampNeg (vp_nar .byte z1))) 50) (cf 48).toNatClampNeg (vp_nar .boolean 1))) 51) (cf 48).toNatClampNeg (cf 54))) 52) (cf 48).toNatClampNeg p1)) (cf 48) p0 (cf 54) p1 (txo (cf 43).toInt) from (lyu_mk (by first | (unfold txo; rw [if_pos (by omega)]; rfl) | (unfold txo; rw [if_neg (by omega)]; rfl)) (by assumption) rfl rfl rfl rfl)), (show R_mp_lay p0 p1 cf ca (upd (upd cf 48 z21) 54 z19) (va_up (va_up (va_up (va_up ca 49 (upd (ca 49) (cf 48).toNatClampNeg (vp_nar .byte z1))) 50 (upd ((va_up ca 49 (upd (ca 49) (cf 48).toNatClampNeg (vp_nar .byte z1))) 50) (cf 48).toNatClampNeg (vp_nar .boolean 1))) 51 (upd ((va_up (va_up ca 49 (upd (ca 49) (cf 48).toNatClampNeg (vp_nar .byte z1))) 50 (upd ((va_up ca 49 (upd (ca 49) (cf 48).toNatClampNeg (vp_nar .byte z1))) 50) (cf 48).toNatClampNeg (vp_nar .boolean 1))) 51) (cf 48).toNatClampNeg (cf 54))) 52 (upd ((va_up (va_up (va_up ca 49 (upd (ca 49) (cf 48).toNatClampNeg (vp_nar .byte z1))) 50 (upd ((va_up ca 49 (upd (ca 49) (cf 48).toNatClampNeg (vp_nar .byte z1))) 50) (cf 48).toNatClampNeg (vp_nar .boolean 1))) 51 (upd ((va_up (va_up ca 49 (upd (ca 49) (cf 48).toNatClampNeg (vp_nar .byte z1))) 50 (upd ((va_up ca 49 (upd (ca 49) (cf 48).toNatClampNeg (vp_nar .byte z1))) 50) (cf 48).toNatClampNeg (vp_nar .boolean 1))) 51) (cf 48).toNatClampNeg (cf 54))) 52) (cf 48).toNatClampNeg p1)) z22 from (Or.inl ⟨z1, ez1, Or.inr ⟨nc2, Or.inl ⟨nc16, z19, ez19, z21, ez21, z22, ez22, rfl, rfl, rfl⟩⟩⟩))⟩) d_Mpg_lay_90
    · have nc16 : ¬ p0.toInt < (4 : Int) := mt (i_lt (x := p0) (y := 4)).mpr c16
      refine lv_iconst (v := 2) S.x S.b d_Mpg_lay_65 (by decide) ?_
      refine lv_goto (tgt := 70) S.x S.b d_Mpg_lay_66 (by decide) ?_
      refine lv_iadd S.x S.b d_Mpg_lay_70 ?_
      have lr23 := Int32.le_toInt (cf 54)
      have ur23 := Int32.toInt_lt (cf 54)
      refine lv_topi (fun z24 ez24 => ?_)
      have tz24 : z24.toInt = ((cf 54).toInt + (2 : Int) + 2147483648) % 4294967296 - 2147483648 := by rw [ez24]; exact i_add (cf 54) 2
      have lz24 := Int32.le_toInt z24
      have uz24 := Int32.toInt_lt z24
      try replace tz24 : z24.toInt = (cf 54).toInt + (2 : Int) := by omega
      refine px_put S k_Mpg hT hw 0 0 54 rfl rfl (by decide) m10_49 rfl rfl rfl (Nat.le_of_ble_eq_true rfl) d_Mpg_lay_71 (w' := wdP cs h r g tf ta pf na ma wa (upd cf 54 z24) (va_up (va_up (va_up (va_up ca 49 (upd (ca 49) (cf 48).toNatClampNeg (vp_nar .byte z1))) 50 (upd ((va_up ca 49 (upd (ca 49) (cf 48).toNatClampNeg (vp_nar .byte z1))) 50) (cf 48).toNatClampNeg (vp_nar .boolean 1))) 51 (upd ((va_up (va_up ca 49 (upd (ca 49) (cf 48).toNatClampNeg (vp_nar .byte z1))) 50 (upd ((va_up ca 49 (upd (ca 49) (cf 48).toNatClampNeg (vp_nar .byte z1))) 50) (cf 48).toNatClampNeg (vp_nar .boolean 1))) 51) (cf 48).toNatClampNeg (cf 54))) 52 (upd ((va_up (va_up (va_up ca 49 (upd (ca 49) (cf 48).toNatClampNeg (vp_nar .byte z1))) 50 (upd ((va_up ca 49 (upd (ca 49) (cf 48).toNatClampNeg (vp_nar .byte z1))) 50) (cf 48).toNatClampNeg (vp_nar .boolean 1))) 51 (upd ((va_up (va_up ca 49 (upd (ca 49) (cf 48).toNatClampNeg (vp_nar .byte z1))) 50 (upd ((va_up ca 49 (upd (ca 49) (cf 48).toNatClampNeg (vp_nar .byte z1))) 50) (cf 48).toNatClampNeg (vp_nar .boolean 1))) 51) (cf 48).toNatClampNeg (cf 54))) 52) (cf 48).toNatClampNeg p1)) ef ea xf xa) (ps' := [wdP cs h r g tf ta pf na ma wa (upd cf 54 z24) (va_up (va_up (va_up (va_up ca 49 (upd (ca 49) (cf 48).toNatClampNeg (vp_nar .byte z1))) 50 (upd ((va_up ca 49 (upd (ca 49) (cf 48).toNatClampNeg (vp_nar .byte z1))) 50) (cf 48).toNatClampNeg (vp_nar .boolean 1))) 51 (upd ((va_up (va_up ca 49 (upd (ca 49) (cf 48).toNatClampNeg (vp_nar .byte z1))) 50 (upd ((va_up ca 49 (upd (ca 49) (cf 48).toNatClampNeg (vp_nar .byte z1))) 50) (cf 48).toNatClampNeg (vp_nar .boolean 1))) 51) (cf 48).toNatClampNeg (cf 54))) 52 (upd ((va_up (va_up (va_up ca 49 (upd (ca 49) (cf 48).toNatClampNeg (vp_nar .byte z1))) 50 (upd ((va_up ca 49 (upd (ca 49) (cf 48).toNatClampNeg (vp_nar .byte z1))) 50) (cf 48).toNatClampNeg (vp_nar .boolean 1))) 51 (upd ((va_up (va_up ca 49 (upd (ca 49) (cf 48).toNatClampNeg (vp_nar .byte z1))) 50 (upd ((va_up ca 49 (upd (ca 49) (cf 48).toNatClampNeg (vp_nar .byte z1))) 50) (cf 48).toNatClampNeg (vp_nar .boolean 1))) 51) (cf 48).toNatClampNeg (cf 54))) 52) (cf 48).toNatClampNeg p1)) ef ea xf xa]) rfl rfl (fun H locs hw => ?_)
      refine lv_aload_n S.x S.b d_Mpg_lay_74 rfl (lv_at hl 0 rfl) ?_
      refine lv_dup S.x S.b d_Mpg_lay_75 rfl ?_
      refine px_get S k_Mpg hT hw 0 0 48 (v := .int (cf 48)) rfl rfl rfl (by decide) m10_39 d_Mpg_lay_76 ?_
      refine lv_iconst (v := 1) S.x S.b d_Mpg_lay_79 (by decide) ?_
      refine lv_iadd S.x S.b d_Mpg_lay_80 ?_
      have lr25 := Int32.le_toInt (cf 48)
      have ur25 := Int32.toInt_lt (cf 48)
      refine lv_topi (fun z26 ez26 => ?_)
      have tz26 : z26.toInt = ((cf 48).toInt + (1 : Int) + 2147483648) % 4294967296 - 2147483648 := by rw [ez26]; exact i_add (cf 48) 1
      have lz26 := Int32.le_toInt z26
      have uz26 := Int32.toInt_lt z26
      try replace tz26 : z26.toInt = (cf 48).toInt + (1 : Int) := by omega
      refine px_put S k_Mpg hT hw 0 0 48 rfl rfl (by decide) m10_39 rfl rfl rfl (Nat.le_of_ble_eq_true rfl) d_Mpg_lay_81 (w' := wdP cs h r g tf ta pf na ma wa (upd (upd cf 48 z26) 54 z24) (va_up (va_up (va_up (va_up ca 49 (upd (ca 49) (cf 48).toNatClampNeg (vp_nar .byte z1))) 50 (upd ((va_up ca 49 (upd (ca 49) (cf 48).toNatClampNeg (vp_nar .byte z1))) 50) (cf 48).toNatClampNeg (vp_nar .boolean 1))) 51 (upd ((va_up (va_up ca 49 (upd (ca 49) (cf 48).toNatClampNeg (vp_nar .byte z1))) 50 (upd ((va_up ca 49 (upd (ca 49) (cf 48).toNatClampNeg (vp_nar .byte z1))) 50) (cf 48).toNatClampNeg (vp_nar .boolean 1))) 51) (cf 48).toNatClampNeg (cf 54))) 52 (upd ((va_up (va_up (va_up ca 49 (upd (ca 49) (cf 48).toNatClampNeg (vp_nar .byte z1))) 50 (upd ((va_up ca 49 (upd (ca 49) (cf 48).toNatClampNeg (vp_nar .byte z1))) 50) (cf 48).toNatClampNeg (vp_nar .boolean 1))) 51 (upd ((va_up (va_up ca 49 (upd (ca 49) (cf 48).toNatClampNeg (vp_nar .byte z1))) 50 (upd ((va_up ca 49 (upd (ca 49) (cf 48).toNatClampNeg (vp_nar .byte z1))) 50) (cf 48).toNatClampNeg (vp_nar .boolean 1))) 51) (cf 48).toNatClampNeg (cf 54))) 52) (cf 48).toNatClampNeg p1)) ef ea xf xa) (ps' := [wdP cs h r g tf ta pf na ma wa (upd (upd cf 48 z26) 54 z24) (va_up (va_up (va_up (va_up ca 49 (upd (ca 49) (cf 48).toNatClampNeg (vp_nar .byte z1))) 50 (upd ((va_up ca 49 (upd (ca 49) (cf 48).toNatClampNeg (vp_nar .byte z1))) 50) (cf 48).toNatClampNeg (vp_nar .boolean 1))) 51 (upd ((va_up (va_up ca 49 (upd (ca 49) (cf 48).toNatClampNeg (vp_nar .byte z1))) 50 (upd ((va_up ca 49 (upd (ca 49) (cf 48).toNatClampNeg (vp_nar .byte z1))) 50) (cf 48).toNatClampNeg (vp_nar .boolean 1))) 51) (cf 48).toNatClampNeg (cf 54))) 52 (upd ((va_up (va_up (va_up ca 49 (upd (ca 49) (cf 48).toNatClampNeg (vp_nar .byte z1))) 50 (upd ((va_up ca 49 (upd (ca 49) (cf 48).toNatClampNeg (vp_nar .byte z1))) 50) (cf 48).toNatClampNeg (vp_nar .boolean 1))) 51 (upd ((va_up (va_up ca 49 (upd (ca 49) (cf 48).toNatClampNeg (vp_nar .byte z1))) 50 (upd ((va_up ca 49 (upd (ca 49) (cf 48).toNatClampNeg (vp_nar .byte z1))) 50) (cf 48).toNatClampNeg (vp_nar .boolean 1))) 51) (cf 48).toNatClampNeg (cf 54))) 52) (cf 48).toNatClampNeg p1)) ef ea xf xa]) rfl rfl (fun H locs hw => ?_)
      refine lv_aload_n S.x S.b d_Mpg_lay_84 rfl (lv_at hl 0 rfl) ?_
      refine px_get S k_Mpg hT hw 0 0 48 (v := .int z26) rfl rfl rfl (by decide) m10_39 d_Mpg_lay_85 ?_
      refine lv_iconst (v := 1) S.x S.b d_Mpg_lay_88 (by decide) ?_
      refine lv_isub S.x S.b d_Mpg_lay_89 ?_
      refine lv_topi (fun z27 ez27 => ?_)
      have tz27 : z27.toInt = (z26.toInt - (1 : Int) + 2147483648) % 4294967296 - 2147483648 := by rw [ez27]; exact i_sub z26 1
      have lz27 := Int32.le_toInt z27
      have uz27 := Int32.toInt_lt z27
      try replace tz27 : z27.toInt = z26.toInt - (1 : Int) := by omega
      exact px_iret (v := z27) S hr rfl hlk hAe hw (Nat.le_of_ble_eq_true rfl) (Nat.le_of_ble_eq_true rfl) (⟨(upd (upd cf 48 z26) 54 z24), (va_up (va_up (va_up (va_up ca 49 (upd (ca 49) (cf 48).toNatClampNeg (vp_nar .byte z1))) 50 (upd ((va_up ca 49 (upd (ca 49) (cf 48).toNatClampNeg (vp_nar .byte z1))) 50) (cf 48).toNatClampNeg (vp_nar .boolean 1))) 51 (upd ((va_up (va_up ca 49 (upd (ca 49) (cf 48).toNatClampNeg (vp_nar .byte z1))) 50 (upd ((va_up ca 49 (upd (ca 49) (cf 48).toNatClampNeg (vp_nar .byte z1))) 50) (cf 48).toNatClampNeg (vp_nar .boolean 1))) 51) (cf 48).toNatClampNeg (cf 54))) 52 (upd ((va_up (va_up (va_up ca 49 (upd (ca 49) (cf 48).toNatClampNeg (vp_nar .byte z1))) 50 (upd ((va_up ca 49 (upd (ca 49) (cf 48).toNatClampNeg (vp_nar .byte z1))) 50) (cf 48).toNatClampNeg (vp_nar .boolean 1))) 51 (upd ((va_up (va_up ca 49 (upd (ca 49) (cf 48).toNatClampNeg (vp_nar .byte z1))) 50 (upd ((va_up ca 49 (upd (ca 49) (cf 48).toNatClampNeg (vp_nar .byte z1))) 50) (cf 48).toNatClampNeg (vp_nar .boolean 1))) 51) (cf 48).toNatClampNeg (cf 54))) 52) (cf 48).toNatClampNeg p1)), rfl, (show z27.toInt = (cf 48).toInt from by first | exact oz_9a9b2fbcd1 tz26 tz27 | omega), (show z26.toInt = (cf 48).toInt + 1 from by first | exact oz_037caa6b79 tz26 | omega), (show (cf 54).toInt ≤ z24.toInt from by first | exact oz_d20558dcd1 tz24 | omega), (show z24.toInt ≤ (cf 54).toInt + 4096 from by first | exact oz_36e32de4fa tz24 | omega), (show p0.toInt ≤ 3 → z24.toInt = (cf 54).toInt + p1.toInt from by omega), (show 4 ≤ p0.toInt → z24.toInt = (cf 54).toInt + 2 from by first | exact fun q9 => oz_08423f1fa4 tz24 | omega), (show (cf 30).toInt = (cf 30).toInt from rfl), (show (cf 31).toInt = (cf 31).toInt from rfl), (show (cf 33).toInt = (cf 33).toInt from rfl), (show (cf 37).toInt = (cf 37).toInt from rfl), (show (cf 38).toInt = (cf 38).toInt from rfl), (show (cf 41).toInt = (cf 41).toInt from rfl), (show (cf 42).toInt = (cf 42).toInt from rfl), (show (cf 43).toInt = (cf 43).toInt from rfl), (show (cf 44).toInt = (cf 44).toInt from rfl), (show (cf 45).toInt = (cf 45).toInt from rfl), (show (cf 46).toInt = (cf 46).toInt from rfl), (show (cf 47).toInt = (cf 47).toInt from rfl), (show (cf 55).toInt = (cf 55).toInt from rfl), (show (cf 57).toInt = (cf 57).toInt from rfl), (show (cf 58).toInt = (cf 58).toInt from rfl), (show (cf 59).toInt = (cf 59).toInt from rfl), (show LyU ca (va_up (va_up (va_up (va_up ca 49 (upd (ca 49) (cf 48).toNatClampNeg (vp_nar .byte z1))) 50 (upd ((va_up ca 49 (upd (ca 49) (cf 48).toNatClampNeg (vp_nar .byte z1))) 50) (cf 48).toNatClampNeg (vp_nar .boolean 1))) 51 (upd ((va_up (va_up ca 49 (upd (ca 49) (cf 48).toNatClampNeg (vp_nar .byte z1))) 50 (upd ((va_up ca 49 (upd (ca 49) (cf 48).toNatClampNeg (vp_nar .byte z1))) 50) (cf 48).toNatClampNeg (vp_nar .boolean 1))) 51) (cf 48).toNatClampNeg (cf 54))) 52 (upd ((va_up (va_up (va_up ca 49 (upd (ca 49) (cf 48).toNatClampNeg (vp_nar .byte z1))) 50 (upd ((va_up ca 49 (upd (ca 49) (cf 48).toNatClampNeg (vp_nar .byte z1))) 50) (cf 48).toNatClampNeg (vp_nar .boolean 1))) 51 (upd ((va_up (va_up ca 49 (upd (ca 49) (cf 48).toNatClampNeg (vp_nar .byte z1))) 50 (upd ((va_up ca 49 (upd (ca 49) (cf 48).toNatClampNeg (vp_nar .byte z1))) 50) (cf 48).toNatClampNeg (vp_nar .boolean 1))) 51) (cf 48).toNatClampNeg (cf 54))) 52) (cf 48).toNatClampNeg p1)) (cf 48) p0 (cf 54) p1 (txo (cf 43).toInt) from (lyu_mk (by first | (unfold txo; rw [if_pos (by omega)]; rfl) | (unfold txo; rw [if_neg (by omega)]; rfl)) (by assumption) rfl rfl rfl rfl)), (show R_mp_lay p0 p1 cf ca (upd (upd cf 48 z26) 54 z24) (va_up (va_up (va_up (va_up ca 49 (upd (ca 49) (cf 48).toNatClampNeg (vp_nar .byte z1))) 50 (upd ((va_up ca 49 (upd (ca 49) (cf 48).toNatClampNeg (vp_nar .byte z1))) 50) (cf 48).toNatClampNeg (vp_nar .boolean 1))) 51 (upd ((va_up (va_up ca 49 (upd (ca 49) (cf 48).toNatClampNeg (vp_nar .byte z1))) 50 (upd ((va_up ca 49 (upd (ca 49) (cf 48).toNatClampNeg (vp_nar .byte z1))) 50) (cf 48).toNatClampNeg (vp_nar .boolean 1))) 51) (cf 48).toNatClampNeg (cf 54))) 52 (upd ((va_up (va_up (va_up ca 49 (upd (ca 49) (cf 48).toNatClampNeg (vp_nar .byte z1))) 50 (upd ((va_up ca 49 (upd (ca 49) (cf 48).toNatClampNeg (vp_nar .byte z1))) 50) (cf 48).toNatClampNeg (vp_nar .boolean 1))) 51 (upd ((va_up (va_up ca 49 (upd (ca 49) (cf 48).toNatClampNeg (vp_nar .byte z1))) 50 (upd ((va_up ca 49 (upd (ca 49) (cf 48).toNatClampNeg (vp_nar .byte z1))) 50) (cf 48).toNatClampNeg (vp_nar .boolean 1))) 51) (cf 48).toNatClampNeg (cf 54))) 52) (cf 48).toNatClampNeg p1)) z27 from (Or.inl ⟨z1, ez1, Or.inr ⟨nc2, Or.inr ⟨nc16, z24, ez24, z26, ez26, z27, ez27, rfl, rfl, rfl⟩⟩⟩))⟩) d_Mpg_lay_90
