abbrev b_Tok_rewind : ByteArray := prog_12_method_22_code
def y_Tok_rewind : MethodName := ⟨R_Tok, "rewind", "()V"⟩
def w_Tok_rewind : List Cond := .code y_Tok_rewind b_Tok_rewind 1 none :: ([.fieldLink R_Tok 138 "HomeSystem$Tokens" "now" "I", .fieldLink R_Tok 141 "HomeSystem$Tokens" "open" "I", .fieldLink R_Tok 53 "HomeSystem$Tokens" "count" "I", .fieldLink R_Tok 144 "HomeSystem$Tokens" "wrongToken" "I", .fieldLink R_Tok 147 "HomeSystem$Tokens" "wrongNumber" "I"] ++ w_Tok)
theorem i_Tok_rewind : ∀ w ∈ w_Tok, w ∈ w_Tok_rewind := fun _ h => List.mem_cons_of_mem _ (List.mem_append_right _ h)
theorem d_Tok_rewind_0 : decode b_Tok_rewind 0 = .ok (.aload_n 0, 1) := by decide +kernel
theorem d_Tok_rewind_1 : decode b_Tok_rewind 1 = .ok (.iconst 0, 1) := by decide +kernel
theorem d_Tok_rewind_2 : decode b_Tok_rewind 2 = .ok (.putfield 138, 3) := by decide +kernel
theorem d_Tok_rewind_5 : decode b_Tok_rewind 5 = .ok (.aload_n 0, 1) := by decide +kernel
theorem d_Tok_rewind_6 : decode b_Tok_rewind 6 = .ok (.iconst 0, 1) := by decide +kernel
theorem d_Tok_rewind_7 : decode b_Tok_rewind 7 = .ok (.putfield 141, 3) := by decide +kernel
theorem d_Tok_rewind_10 : decode b_Tok_rewind 10 = .ok (.aload_n 0, 1) := by decide +kernel
theorem d_Tok_rewind_11 : decode b_Tok_rewind 11 = .ok (.aload_n 0, 1) := by decide +kernel
theorem d_Tok_rewind_12 : decode b_Tok_rewind 12 = .ok (.getfield 53, 3) := by decide +kernel
theorem d_Tok_rewind_15 : decode b_Tok_rewind 15 = .ok (.putfield 144, 3) := by decide +kernel
theorem d_Tok_rewind_18 : decode b_Tok_rewind 18 = .ok (.aload_n 0, 1) := by decide +kernel
theorem d_Tok_rewind_19 : decode b_Tok_rewind 19 = .ok (.iconst 0, 1) := by decide +kernel
theorem d_Tok_rewind_20 : decode b_Tok_rewind 20 = .ok (.putfield 147, 3) := by decide +kernel
theorem d_Tok_rewind_23 : decode b_Tok_rewind 23 = .ok (.return_, 1) := by decide +kernel
set_option maxHeartbeats 4000000 in
set_option maxRecDepth 100000 in
theorem c_Tok_rewind (l : Launch) (dC : Nat → ClassId) (dI : Nat → Nat → Nat) (h0 sz : Nat) (f0 : Value) (f1 : Value) (f2 : Value) (f3 : Value) (f4 : Value) (f5 : Value) (f6 : Value) (f7 : Int32) (f8 : Int32) (f9 : Int32) (f10 : Int32) (f11 : Int32) (f12 : Int32) (f13 : Int32) (f14 : Int32) (f15 : Int32) (f16 : Int32) (f17 : Int32) (f18 : Int32)  : Met l y_Tok_rewind w_Tok_rewind ({ frames := 0, cells := 0, slots := 0, locals := 0 }) (va_Pc [.ref h0] (fun U => U.heap.size = sz ∧ va_P (dC, dI) classes [(h0, .inr (1, [f0, f1, f2, f3, f4, f5, f6, .int f7, .int f8, .int f9, .int f10, .int f11, .int f12, .int f13, .int f14, .int f15, .int f16, .int f17, .int f18]))] U.heap ∧ va_K (dC, dI) classes [] U ∧ va_D (fun _ => True) [(h0, .inr (1, [f0, f1, f2, f3, f4, f5, f6, .int f7, .int f8, .int f9, .int f10, .int f11, .int f12, .int f13, .int f14, .int f15, .int f16, .int f17, .int f18]))])) (va_Qv (fun (u : Int32 × Int32 × Int32 × Int32) => match u with | (u13, u14, u17, u18) => True ∧ u13 = 0 ∧ u14 = 0 ∧ u17 = f10 ∧ u18 = 0) (fun (u : Int32 × Int32 × Int32 × Int32) (t : State) => match u with | (u13, u14, u17, u18) => va_P (dC, dI) classes [(h0, .inr (1, [f0, f1, f2, f3, f4, f5, f6, .int f7, .int f8, .int f9, .int f10, .int f11, .int f12, .int u13, .int u14, .int f15, .int f16, .int u17, .int u18]))] t.heap ∧ va_K (dC, dI) classes [] t ∧ va_D (va_A [(h0, .inr (1, [f0, f1, f2, f3, f4, f5, f6, .int f7, .int f8, .int f9, .int f10, .int f11, .int f12, .int f13, .int f14, .int f15, .int f16, .int f17, .int f18]))] sz) [(h0, .inr (1, [f0, f1, f2, f3, f4, f5, f6, .int f7, .int f8, .int f9, .int f10, .int f11, .int f12, .int u13, .int u14, .int f15, .int f16, .int u17, .int u18]))]) (va_A [(h0, .inr (1, [f0, f1, f2, f3, f4, f5, f6, .int f7, .int f8, .int f9, .int f10, .int f11, .int f12, .int f13, .int f14, .int f15, .int f16, .int f17, .int f18]))] sz)) 0 0 (va_A [(h0, .inr (1, [f0, f1, f2, f3, f4, f5, f6, .int f7, .int f8, .int f9, .int f10, .int f11, .int f12, .int f13, .int f14, .int f15, .int f16, .int f17, .int f18]))] sz) := by
  refine Met.ofW (cc := b_Tok_rewind) (maxL := 1) (ret := none) (by decide) rfl ?_
  intro p e s m args below meth c s₁ B hml hv
  obtain ⟨rfl, hsz, hP, hK, hD0⟩ := hv
  have hx := B.exec
  have hb := B.bytes
  have hr := B.returns
  have hts := atoms_spec (ws := w_Tok_rewind) B.pre
  have hown : s.vm.findClass R_Tok = some m.cls := findClass_of_methodNamed B.named
  have hlocks := B.notSynchronized
  subst hsz
  have hD := hD0.self (sz := s.heap.size)
  generalize hAe : va_A [(h0, .inr (1, [f0, f1, f2, f3, f4, f5, f6, .int f7, .int f8, .int f9, .int f10, .int f11, .int f12, .int f13, .int f14, .int f15, .int f16, .int f17, .int f18]))] s.heap.size = A at hD ⊢
  have hS : va_S A s.heap s.heap [] := va_S.rf
  have hl := lv_entry ([.ref h0]) (n := 1) (Nat.le_of_ble_eq_true rfl)
  rw [lg_entry_eq]
  generalize (lg_sl ([.ref h0]) ++ List.replicate (1 - (lg_sl ([.ref h0])).length) Slot.unset).toArray = ls at hl ⊢
  have hl : lv_has ls 1 [(0, .ref h0)] := hl
  refine lv_aload_n hx hb d_Tok_rewind_0 rfl (lv_at hl 0 rfl) ?_
  refine lv_iconst (v := 0) hx hb d_Tok_rewind_1 (by decide) ?_
  refine va_put (D := (dC, dI)) (ci := 1) (v := .int 0) (ty := .int) (C := R_Tok) (T := F_Tok) (N := 19) hx hb hts i_Tok_rewind t_Tok t_Tok_ok n_Tok hown hK hP hD hS 0 rfl rfl 13 (by decide) (hts (.fieldLink R_Tok 138 "HomeSystem$Tokens" "now" "I") (List.mem_cons_of_mem _ (List.mem_append_left _ (List.mem_of_getElem? (i := 0) rfl)))) (fun _ h9 => h9) rfl (by decide +kernel) rfl rfl (Nat.le_of_ble_eq_true rfl) d_Tok_rewind_2 (fun H locs hP hD hS => ?_)
  have hP : va_P (dC, dI) classes [(h0, .inr (1, [f0, f1, f2, f3, f4, f5, f6, .int f7, .int f8, .int f9, .int f10, .int f11, .int f12, .int 0, .int f14, .int f15, .int f16, .int f17, .int f18]))] H := hP
  have hD : va_D A [(h0, .inr (1, [f0, f1, f2, f3, f4, f5, f6, .int f7, .int f8, .int f9, .int f10, .int f11, .int f12, .int 0, .int f14, .int f15, .int f16, .int f17, .int f18]))] := hD
  refine lv_aload_n hx hb d_Tok_rewind_5 rfl (lv_at hl 0 rfl) ?_
  refine lv_iconst (v := 0) hx hb d_Tok_rewind_6 (by decide) ?_
  refine va_put (D := (dC, dI)) (ci := 1) (v := .int 0) (ty := .int) (C := R_Tok) (T := F_Tok) (N := 19) hx hb hts i_Tok_rewind t_Tok t_Tok_ok n_Tok hown hK hP hD hS 0 rfl rfl 14 (by decide) (hts (.fieldLink R_Tok 141 "HomeSystem$Tokens" "open" "I") (List.mem_cons_of_mem _ (List.mem_append_left _ (List.mem_of_getElem? (i := 1) rfl)))) (fun _ h9 => h9) rfl (by decide +kernel) rfl rfl (Nat.le_of_ble_eq_true rfl) d_Tok_rewind_7 (fun H locs hP hD hS => ?_)
  have hP : va_P (dC, dI) classes [(h0, .inr (1, [f0, f1, f2, f3, f4, f5, f6, .int f7, .int f8, .int f9, .int f10, .int f11, .int f12, .int 0, .int 0, .int f15, .int f16, .int f17, .int f18]))] H := hP
  have hD : va_D A [(h0, .inr (1, [f0, f1, f2, f3, f4, f5, f6, .int f7, .int f8, .int f9, .int f10, .int f11, .int f12, .int 0, .int 0, .int f15, .int f16, .int f17, .int f18]))] := hD
  refine lv_aload_n hx hb d_Tok_rewind_10 rfl (lv_at hl 0 rfl) ?_
  refine lv_aload_n hx hb d_Tok_rewind_11 rfl (lv_at hl 0 rfl) ?_
  refine va_get (D := (dC, dI)) (ci := 1) (v := .int f10) (C := R_Tok) (T := F_Tok) (N := 19) hx hb hts i_Tok_rewind hown hK hP 0 rfl rfl 10 (by decide) (hts (.fieldLink R_Tok 53 "HomeSystem$Tokens" "count" "I") (List.mem_cons_of_mem _ (List.mem_append_left _ (List.mem_of_getElem? (i := 2) rfl)))) (fun _ h9 => h9) rfl d_Tok_rewind_12 ?_
  refine va_put (D := (dC, dI)) (ci := 1) (v := .int f10) (ty := .int) (C := R_Tok) (T := F_Tok) (N := 19) hx hb hts i_Tok_rewind t_Tok t_Tok_ok n_Tok hown hK hP hD hS 0 rfl rfl 17 (by decide) (hts (.fieldLink R_Tok 144 "HomeSystem$Tokens" "wrongToken" "I") (List.mem_cons_of_mem _ (List.mem_append_left _ (List.mem_of_getElem? (i := 3) rfl)))) (fun _ h9 => h9) rfl (by decide +kernel) rfl rfl (Nat.le_of_ble_eq_true rfl) d_Tok_rewind_15 (fun H locs hP hD hS => ?_)
  have hP : va_P (dC, dI) classes [(h0, .inr (1, [f0, f1, f2, f3, f4, f5, f6, .int f7, .int f8, .int f9, .int f10, .int f11, .int f12, .int 0, .int 0, .int f15, .int f16, .int f10, .int f18]))] H := hP
  have hD : va_D A [(h0, .inr (1, [f0, f1, f2, f3, f4, f5, f6, .int f7, .int f8, .int f9, .int f10, .int f11, .int f12, .int 0, .int 0, .int f15, .int f16, .int f10, .int f18]))] := hD
  refine lv_aload_n hx hb d_Tok_rewind_18 rfl (lv_at hl 0 rfl) ?_
  refine lv_iconst (v := 0) hx hb d_Tok_rewind_19 (by decide) ?_
  refine va_put (D := (dC, dI)) (ci := 1) (v := .int 0) (ty := .int) (C := R_Tok) (T := F_Tok) (N := 19) hx hb hts i_Tok_rewind t_Tok t_Tok_ok n_Tok hown hK hP hD hS 0 rfl rfl 18 (by decide) (hts (.fieldLink R_Tok 147 "HomeSystem$Tokens" "wrongNumber" "I") (List.mem_cons_of_mem _ (List.mem_append_left _ (List.mem_of_getElem? (i := 4) rfl)))) (fun _ h9 => h9) rfl (by decide +kernel) rfl rfl (Nat.le_of_ble_eq_true rfl) d_Tok_rewind_20 (fun H locs hP hD hS => ?_)
  have hP : va_P (dC, dI) classes [(h0, .inr (1, [f0, f1, f2, f3, f4, f5, f6, .int f7, .int f8, .int f9, .int f10, .int f11, .int f12, .int 0, .int 0, .int f15, .int f16, .int f10, .int 0]))] H := hP
  have hD : va_D A [(h0, .inr (1, [f0, f1, f2, f3, f4, f5, f6, .int f7, .int f8, .int f9, .int f10, .int f11, .int f12, .int 0, .int 0, .int f15, .int f16, .int f10, .int 0]))] := hD
  exact W.vret hx hb hr (fun t ht hW => ⟨⟨(0, 0, f10, 0), rfl, ⟨trivial, rfl, rfl, rfl, rfl⟩, by rw [ht]; exact hP, va_K.moved hW.alike hK, hAe.symm ▸ hD⟩, hS.F ht⟩) hS.2.2 d_Tok_rewind_23
abbrev b_Tok_last : ByteArray := prog_12_method_27_code
def y_Tok_last : MethodName := ⟨R_Tok, "last", "()I"⟩
def w_Tok_last : List Cond := .code y_Tok_last b_Tok_last 1 (some .int) :: ([.fieldLink R_Tok 53 "HomeSystem$Tokens" "count" "I"] ++ w_Tok)
theorem i_Tok_last : ∀ w ∈ w_Tok, w ∈ w_Tok_last := fun _ h => List.mem_cons_of_mem _ (List.mem_append_right _ h)
theorem d_Tok_last_0 : decode b_Tok_last 0 = .ok (.aload_n 0, 1) := by decide +kernel
theorem d_Tok_last_1 : decode b_Tok_last 1 = .ok (.getfield 53, 3) := by decide +kernel
theorem d_Tok_last_4 : decode b_Tok_last 4 = .ok (.iconst 1, 1) := by decide +kernel
theorem d_Tok_last_5 : decode b_Tok_last 5 = .ok (.isub, 1) := by decide +kernel
theorem d_Tok_last_6 : decode b_Tok_last 6 = .ok (.ireturn, 1) := by decide +kernel
set_option maxHeartbeats 4000000 in
set_option maxRecDepth 100000 in
theorem c_Tok_last (l : Launch) (dC : Nat → ClassId) (dI : Nat → Nat → Nat) (h0 sz : Nat) (f0 : Value) (f1 : Value) (f2 : Value) (f3 : Value) (f4 : Value) (f5 : Value) (f6 : Value) (f7 : Int32) (f8 : Int32) (f9 : Int32) (f10 : Int32) (f11 : Int32) (f12 : Int32) (f13 : Int32) (f14 : Int32) (f15 : Int32) (f16 : Int32) (f17 : Int32) (f18 : Int32)  : Met l y_Tok_last w_Tok_last ({ frames := 0, cells := 0, slots := 0, locals := 0 }) (va_Pc [.ref h0] (fun U => U.heap.size = sz ∧ va_P (dC, dI) classes [(h0, .inr (1, [f0, f1, f2, f3, f4, f5, f6, .int f7, .int f8, .int f9, .int f10, .int f11, .int f12, .int f13, .int f14, .int f15, .int f16, .int f17, .int f18]))] U.heap ∧ va_K (dC, dI) classes [] U ∧ va_D (fun _ => True) [(h0, .inr (1, [f0, f1, f2, f3, f4, f5, f6, .int f7, .int f8, .int f9, .int f10, .int f11, .int f12, .int f13, .int f14, .int f15, .int f16, .int f17, .int f18]))])) (va_Qi (fun (r : Int32) (u : Unit) => match u with | _ => r = (f10 - 1) ∧ True) (fun (u : Unit) (t : State) => match u with | _ => va_P (dC, dI) classes [(h0, .inr (1, [f0, f1, f2, f3, f4, f5, f6, .int f7, .int f8, .int f9, .int f10, .int f11, .int f12, .int f13, .int f14, .int f15, .int f16, .int f17, .int f18]))] t.heap ∧ va_K (dC, dI) classes [] t ∧ va_D (va_A [(h0, .inr (1, [f0, f1, f2, f3, f4, f5, f6, .int f7, .int f8, .int f9, .int f10, .int f11, .int f12, .int f13, .int f14, .int f15, .int f16, .int f17, .int f18]))] sz) [(h0, .inr (1, [f0, f1, f2, f3, f4, f5, f6, .int f7, .int f8, .int f9, .int f10, .int f11, .int f12, .int f13, .int f14, .int f15, .int f16, .int f17, .int f18]))]) (va_A [(h0, .inr (1, [f0, f1, f2, f3, f4, f5, f6, .int f7, .int f8, .int f9, .int f10, .int f11, .int f12, .int f13, .int f14, .int f15, .int f16, .int f17, .int f18]))] sz)) 0 0 (va_A [(h0, .inr (1, [f0, f1, f2, f3, f4, f5, f6, .int f7, .int f8, .int f9, .int f10, .int f11, .int f12, .int f13, .int f14, .int f15, .int f16, .int f17, .int f18]))] sz) := by
  refine Met.ofW (cc := b_Tok_last) (maxL := 1) (ret := (some .int)) (by decide) rfl ?_
  intro p e s m args below meth c s₁ B hml hv
  obtain ⟨rfl, hsz, hP, hK, hD0⟩ := hv
  have hx := B.exec
  have hb := B.bytes
  have hr := B.returns
  have hts := atoms_spec (ws := w_Tok_last) B.pre
  have hown : s.vm.findClass R_Tok = some m.cls := findClass_of_methodNamed B.named
  have hlocks := B.notSynchronized
  subst hsz
  have hD := hD0.self (sz := s.heap.size)
  generalize hAe : va_A [(h0, .inr (1, [f0, f1, f2, f3, f4, f5, f6, .int f7, .int f8, .int f9, .int f10, .int f11, .int f12, .int f13, .int f14, .int f15, .int f16, .int f17, .int f18]))] s.heap.size = A at hD ⊢
  have hS : va_S A s.heap s.heap [] := va_S.rf
  have hl := lv_entry ([.ref h0]) (n := 1) (Nat.le_of_ble_eq_true rfl)
  rw [lg_entry_eq]
  generalize (lg_sl ([.ref h0]) ++ List.replicate (1 - (lg_sl ([.ref h0])).length) Slot.unset).toArray = ls at hl ⊢
  have hl : lv_has ls 1 [(0, .ref h0)] := hl
  refine lv_aload_n hx hb d_Tok_last_0 rfl (lv_at hl 0 rfl) ?_
  refine va_get (D := (dC, dI)) (ci := 1) (v := .int f10) (C := R_Tok) (T := F_Tok) (N := 19) hx hb hts i_Tok_last hown hK hP 0 rfl rfl 10 (by decide) (hts (.fieldLink R_Tok 53 "HomeSystem$Tokens" "count" "I") (List.mem_cons_of_mem _ (List.mem_append_left _ (List.mem_of_getElem? (i := 0) rfl)))) (fun _ h9 => h9) rfl d_Tok_last_1 ?_
  refine lv_iconst (v := 1) hx hb d_Tok_last_4 (by decide) ?_
  refine lv_isub hx hb d_Tok_last_5 ?_
  exact W.iret (v := (f10 - 1)) hx hb hr (fun t ht hW => ⟨⟨(f10 - 1), (), rfl, ⟨rfl, trivial⟩, by rw [ht]; exact hP, va_K.moved hW.alike hK, hAe.symm ▸ hD⟩, hS.F ht⟩) hS.2.2 d_Tok_last_6
abbrev b_Tok_shut : ByteArray := prog_12_method_36_code
def y_Tok_shut : MethodName := ⟨R_Tok, "shut", "()V"⟩
def w_Tok_shut : List Cond := .code y_Tok_shut b_Tok_shut 1 none :: ([.fieldLink R_Tok 141 "HomeSystem$Tokens" "open" "I"] ++ w_Tok)
theorem i_Tok_shut : ∀ w ∈ w_Tok, w ∈ w_Tok_shut := fun _ h => List.mem_cons_of_mem _ (List.mem_append_right _ h)
theorem d_Tok_shut_0 : decode b_Tok_shut 0 = .ok (.aload_n 0, 1) := by decide +kernel
theorem d_Tok_shut_1 : decode b_Tok_shut 1 = .ok (.dup, 1) := by decide +kernel
theorem d_Tok_shut_2 : decode b_Tok_shut 2 = .ok (.getfield 141, 3) := by decide +kernel
theorem d_Tok_shut_5 : decode b_Tok_shut 5 = .ok (.iconst 1, 1) := by decide +kernel
theorem d_Tok_shut_6 : decode b_Tok_shut 6 = .ok (.isub, 1) := by decide +kernel
theorem d_Tok_shut_7 : decode b_Tok_shut 7 = .ok (.putfield 141, 3) := by decide +kernel
theorem d_Tok_shut_10 : decode b_Tok_shut 10 = .ok (.return_, 1) := by decide +kernel
set_option maxHeartbeats 4000000 in
set_option maxRecDepth 100000 in
theorem c_Tok_shut (l : Launch) (dC : Nat → ClassId) (dI : Nat → Nat → Nat) (h0 sz : Nat) (f0 : Value) (f1 : Value) (f2 : Value) (f3 : Value) (f4 : Value) (f5 : Value) (f6 : Value) (f7 : Int32) (f8 : Int32) (f9 : Int32) (f10 : Int32) (f11 : Int32) (f12 : Int32) (f13 : Int32) (f14 : Int32) (f15 : Int32) (f16 : Int32) (f17 : Int32) (f18 : Int32)  : Met l y_Tok_shut w_Tok_shut ({ frames := 0, cells := 0, slots := 0, locals := 0 }) (va_Pc [.ref h0] (fun U => U.heap.size = sz ∧ va_P (dC, dI) classes [(h0, .inr (1, [f0, f1, f2, f3, f4, f5, f6, .int f7, .int f8, .int f9, .int f10, .int f11, .int f12, .int f13, .int f14, .int f15, .int f16, .int f17, .int f18]))] U.heap ∧ va_K (dC, dI) classes [] U ∧ va_D (fun _ => True) [(h0, .inr (1, [f0, f1, f2, f3, f4, f5, f6, .int f7, .int f8, .int f9, .int f10, .int f11, .int f12, .int f13, .int f14, .int f15, .int f16, .int f17, .int f18]))])) (va_Qv (fun (u : Int32) => match u with | (u14) => True ∧ u14 = (f14 - 1)) (fun (u : Int32) (t : State) => match u with | (u14) => va_P (dC, dI) classes [(h0, .inr (1, [f0, f1, f2, f3, f4, f5, f6, .int f7, .int f8, .int f9, .int f10, .int f11, .int f12, .int f13, .int u14, .int f15, .int f16, .int f17, .int f18]))] t.heap ∧ va_K (dC, dI) classes [] t ∧ va_D (va_A [(h0, .inr (1, [f0, f1, f2, f3, f4, f5, f6, .int f7, .int f8, .int f9, .int f10, .int f11, .int f12, .int f13, .int f14, .int f15, .int f16, .int f17, .int f18]))] sz) [(h0, .inr (1, [f0, f1, f2, f3, f4, f5, f6, .int f7, .int f8, .int f9, .int f10, .int f11, .int f12, .int f13, .int u14, .int f15, .int f16, .int f17, .int f18]))]) (va_A [(h0, .inr (1, [f0, f1, f2, f3, f4, f5, f6, .int f7, .int f8, .int f9, .int f10, .int f11, .int f12, .int f13, .int f14, .int f15, .int f16, .int f17, .int f18]))] sz)) 0 0 (va_A [(h0, .inr (1, [f0, f1, f2, f3, f4, f5, f6, .int f7, .int f8, .int f9, .int f10, .int f11, .int f12, .int f13, .int f14, .int f15, .int f16, .int f17, .int f18]))] sz) := by
  refine Met.ofW (cc := b_Tok_shut) (maxL := 1) (ret := none) (by decide) rfl ?_
  intro p e s m args below meth c s₁ B hml hv
  obtain ⟨rfl, hsz, hP, hK, hD0⟩ := hv
  have hx := B.exec
  have hb := B.bytes
  have hr := B.returns
  have hts := atoms_spec (ws := w_Tok_shut) B.pre
  have hown : s.vm.findClass R_Tok = some m.cls := findClass_of_methodNamed B.named
  have hlocks := B.notSynchronized
  subst hsz
  have hD := hD0.self (sz := s.heap.size)
  generalize hAe : va_A [(h0, .inr (1, [f0, f1, f2, f3, f4, f5, f6, .int f7, .int f8, .int f9, .int f10, .int f11, .int f12, .int f13, .int f14, .int f15, .int f16, .int f17, .int f18]))] s.heap.size = A at hD ⊢
  have hS : va_S A s.heap s.heap [] := va_S.rf
  have hl := lv_entry ([.ref h0]) (n := 1) (Nat.le_of_ble_eq_true rfl)
  rw [lg_entry_eq]
  generalize (lg_sl ([.ref h0]) ++ List.replicate (1 - (lg_sl ([.ref h0])).length) Slot.unset).toArray = ls at hl ⊢
  have hl : lv_has ls 1 [(0, .ref h0)] := hl
  refine lv_aload_n hx hb d_Tok_shut_0 rfl (lv_at hl 0 rfl) ?_
  refine lv_dup hx hb d_Tok_shut_1 rfl ?_
  refine va_get (D := (dC, dI)) (ci := 1) (v := .int f14) (C := R_Tok) (T := F_Tok) (N := 19) hx hb hts i_Tok_shut hown hK hP 0 rfl rfl 14 (by decide) (hts (.fieldLink R_Tok 141 "HomeSystem$Tokens" "open" "I") (List.mem_cons_of_mem _ (List.mem_append_left _ (List.mem_of_getElem? (i := 0) rfl)))) (fun _ h9 => h9) rfl d_Tok_shut_2 ?_
  refine lv_iconst (v := 1) hx hb d_Tok_shut_5 (by decide) ?_
  refine lv_isub hx hb d_Tok_shut_6 ?_
  refine va_put (D := (dC, dI)) (ci := 1) (v := .int (f14 - 1)) (ty := .int) (C := R_Tok) (T := F_Tok) (N := 19) hx hb hts i_Tok_shut t_Tok t_Tok_ok n_Tok hown hK hP hD hS 0 rfl rfl 14 (by decide) (hts (.fieldLink R_Tok 141 "HomeSystem$Tokens" "open" "I") (List.mem_cons_of_mem _ (List.mem_append_left _ (List.mem_of_getElem? (i := 0) rfl)))) (fun _ h9 => h9) rfl (by decide +kernel) rfl rfl (Nat.le_of_ble_eq_true rfl) d_Tok_shut_7 (fun H locs hP hD hS => ?_)
  have hP : va_P (dC, dI) classes [(h0, .inr (1, [f0, f1, f2, f3, f4, f5, f6, .int f7, .int f8, .int f9, .int f10, .int f11, .int f12, .int f13, .int (f14 - 1), .int f15, .int f16, .int f17, .int f18]))] H := hP
  have hD : va_D A [(h0, .inr (1, [f0, f1, f2, f3, f4, f5, f6, .int f7, .int f8, .int f9, .int f10, .int f11, .int f12, .int f13, .int (f14 - 1), .int f15, .int f16, .int f17, .int f18]))] := hD
  exact W.vret hx hb hr (fun t ht hW => ⟨⟨((f14 - 1)), rfl, ⟨trivial, rfl⟩, by rw [ht]; exact hP, va_K.moved hW.alike hK, hAe.symm ▸ hD⟩, hS.F ht⟩) hS.2.2 d_Tok_shut_10
abbrev b_Opd_init : ByteArray := prog_6_method_1_code
def y_Opd_init : MethodName := ⟨R_Opd, "<init>", "(III)V"⟩
def w_Opd_init : List Cond := .code y_Opd_init b_Opd_init 4 none :: ([.methodLink R_Opd 3 objectInit, .instanceMethod objectInit, .code objectInit ⟨#[0xb1]⟩ 1 none, .fieldLink R_Opd 9 "HomeSystem$Operand" "depth" "I", .fieldLink R_Opd 15 "HomeSystem$Operand" "height" "I", .fieldLink R_Opd 18 "HomeSystem$Operand" "first" "I", .fieldLink R_Opd 21 "HomeSystem$Operand" "sort" "I", .fieldLink R_Opd 24 "HomeSystem$Operand" "state" "I"] ++ w_Opd)
theorem i_Opd_init : ∀ w ∈ w_Opd, w ∈ w_Opd_init := fun _ h => List.mem_cons_of_mem _ (List.mem_append_right _ h)
theorem d_Opd_init_0 : decode b_Opd_init 0 = .ok (.aload_n 0, 1) := by decide +kernel
theorem d_Opd_init_1 : decode b_Opd_init 1 = .ok (.invokespecial 3, 3) := by decide +kernel
theorem d_Opd_init_4 : decode b_Opd_init 4 = .ok (.aload_n 0, 1) := by decide +kernel
theorem d_Opd_init_5 : decode b_Opd_init 5 = .ok (.iconst 1, 1) := by decide +kernel
theorem d_Opd_init_6 : decode b_Opd_init 6 = .ok (.putfield 9, 3) := by decide +kernel
theorem d_Opd_init_9 : decode b_Opd_init 9 = .ok (.aload_n 0, 1) := by decide +kernel
theorem d_Opd_init_10 : decode b_Opd_init 10 = .ok (.iconst 1, 1) := by decide +kernel
theorem d_Opd_init_11 : decode b_Opd_init 11 = .ok (.putfield 15, 3) := by decide +kernel
theorem d_Opd_init_14 : decode b_Opd_init 14 = .ok (.aload_n 0, 1) := by decide +kernel
theorem d_Opd_init_15 : decode b_Opd_init 15 = .ok (.iload_n 1, 1) := by decide +kernel
theorem d_Opd_init_16 : decode b_Opd_init 16 = .ok (.putfield 18, 3) := by decide +kernel
theorem d_Opd_init_19 : decode b_Opd_init 19 = .ok (.aload_n 0, 1) := by decide +kernel
theorem d_Opd_init_20 : decode b_Opd_init 20 = .ok (.iload_n 2, 1) := by decide +kernel
theorem d_Opd_init_21 : decode b_Opd_init 21 = .ok (.putfield 21, 3) := by decide +kernel
theorem d_Opd_init_24 : decode b_Opd_init 24 = .ok (.aload_n 0, 1) := by decide +kernel
theorem d_Opd_init_25 : decode b_Opd_init 25 = .ok (.iload_n 3, 1) := by decide +kernel
theorem d_Opd_init_26 : decode b_Opd_init 26 = .ok (.putfield 24, 3) := by decide +kernel
theorem d_Opd_init_29 : decode b_Opd_init 29 = .ok (.return_, 1) := by decide +kernel
set_option maxHeartbeats 4000000 in
set_option maxRecDepth 100000 in
theorem c_Opd_init (l : Launch) (dC : Nat → ClassId) (dI : Nat → Nat → Nat) (h0 sz : Nat) (f0 : Int32) (f1 : Int32) (f2 : Int32) (f3 : Int32) (f4 : Value) (f5 : Int32) (f6 : Int32) (f7 : Int32) (f8 : Int32) (p0 : Int32) (p1 : Int32) (p2 : Int32) : Met l y_Opd_init w_Opd_init ({ frames := 1, cells := 0, slots := 0, locals := 12 }) (va_Pc [.ref h0, .int p0, .int p1, .int p2] (fun U => U.heap.size = sz ∧ va_P (dC, dI) classes [(h0, .inr (8, [.int f0, .int f1, .int f2, .int f3, f4, .int f5, .int f6, .int f7, .int f8]))] U.heap ∧ va_K (dC, dI) classes [] U ∧ va_D (fun _ => True) [(h0, .inr (8, [.int f0, .int f1, .int f2, .int f3, f4, .int f5, .int f6, .int f7, .int f8]))])) (va_Qv (fun (u : Int32 × Int32 × Int32 × Int32 × Int32) => match u with | (u0, u1, u2, u5, u6) => True ∧ u0 = p0 ∧ u1 = p1 ∧ u2 = p2 ∧ u5 = 1 ∧ u6 = 1) (fun (u : Int32 × Int32 × Int32 × Int32 × Int32) (t : State) => match u with | (u0, u1, u2, u5, u6) => va_P (dC, dI) classes [(h0, .inr (8, [.int u0, .int u1, .int u2, .int f3, f4, .int u5, .int u6, .int f7, .int f8]))] t.heap ∧ va_K (dC, dI) classes [] t ∧ va_D (va_A [(h0, .inr (8, [.int f0, .int f1, .int f2, .int f3, f4, .int f5, .int f6, .int f7, .int f8]))] sz) [(h0, .inr (8, [.int u0, .int u1, .int u2, .int f3, f4, .int u5, .int u6, .int f7, .int f8]))]) (va_A [(h0, .inr (8, [.int f0, .int f1, .int f2, .int f3, f4, .int f5, .int f6, .int f7, .int f8]))] sz)) 0 0 (va_A [(h0, .inr (8, [.int f0, .int f1, .int f2, .int f3, f4, .int f5, .int f6, .int f7, .int f8]))] sz) := by
  refine Met.ofW (cc := b_Opd_init) (maxL := 4) (ret := none) (by decide) rfl ?_
  intro p e s m args below meth c s₁ B hml hv
  obtain ⟨rfl, hsz, hP, hK, hD0⟩ := hv
  have hx := B.exec
  have hb := B.bytes
  have hr := B.returns
  have hts := atoms_spec (ws := w_Opd_init) B.pre
  have hown : s.vm.findClass R_Opd = some m.cls := findClass_of_methodNamed B.named
  have hlocks := B.notSynchronized
  have hin : meth.name = "<init>" := (name_of_methodNamed B.named B.method).1
  subst hsz
  have hD := hD0.self (sz := s.heap.size)
  generalize hAe : va_A [(h0, .inr (8, [.int f0, .int f1, .int f2, .int f3, f4, .int f5, .int f6, .int f7, .int f8]))] s.heap.size = A at hD ⊢
  have hS : va_S A s.heap s.heap [] := va_S.rf
  have hl := lv_entry ([.ref h0, .int p0, .int p1, .int p2]) (n := 4) (Nat.le_of_ble_eq_true rfl)
  rw [lg_entry_eq]
  generalize (lg_sl ([.ref h0, .int p0, .int p1, .int p2]) ++ List.replicate (4 - (lg_sl ([.ref h0, .int p0, .int p1, .int p2])).length) Slot.unset).toArray = ls at hl ⊢
  have hl : lv_has ls 4 [(0, .ref h0), (1, .int p0), (2, .int p1), (3, .int p2)] := hl
  refine lv_aload_n hx hb d_Opd_init_0 rfl (lv_at hl 0 rfl) ?_
  refine W.objInit hx hb hown (hts (.methodLink R_Opd 3 objectInit) (List.mem_cons_of_mem _ (List.mem_append_left _ (List.mem_of_getElem? (i := 0) rfl)))) (hts (.instanceMethod objectInit) (List.mem_cons_of_mem _ (List.mem_append_left _ (List.mem_of_getElem? (i := 1) rfl)))) (hts _ (List.mem_cons_of_mem _ (List.mem_append_left _ (List.mem_of_getElem? (i := 2) rfl)))) rfl (by rw [hml]; exact hl.1) rfl d_Opd_init_1 (Nat.le_of_ble_eq_true rfl) (Nat.le_of_ble_eq_true rfl) ?_
  refine W.eq (g2 := F0 m 4 ls []) rfl ?_
  refine lv_aload_n hx hb d_Opd_init_4 rfl (lv_at hl 0 rfl) ?_
  refine lv_iconst (v := 1) hx hb d_Opd_init_5 (by decide) ?_
  refine va_put (D := (dC, dI)) (ci := 8) (v := .int 1) (ty := .int) (C := R_Opd) (T := F_Opd) (N := 9) hx hb hts i_Opd_init t_Opd t_Opd_ok n_Opd hown hK hP hD hS 0 rfl rfl 5 (by decide) (hts (.fieldLink R_Opd 9 "HomeSystem$Operand" "depth" "I") (List.mem_cons_of_mem _ (List.mem_append_left _ (List.mem_of_getElem? (i := 3) rfl)))) (fun _ h9 => h9) rfl (by decide +kernel) rfl rfl (Nat.le_of_ble_eq_true rfl) d_Opd_init_6 (fun H locs hP hD hS => ?_)
  have hP : va_P (dC, dI) classes [(h0, .inr (8, [.int f0, .int f1, .int f2, .int f3, f4, .int 1, .int f6, .int f7, .int f8]))] H := hP
  have hD : va_D A [(h0, .inr (8, [.int f0, .int f1, .int f2, .int f3, f4, .int 1, .int f6, .int f7, .int f8]))] := hD
  refine lv_aload_n hx hb d_Opd_init_9 rfl (lv_at hl 0 rfl) ?_
  refine lv_iconst (v := 1) hx hb d_Opd_init_10 (by decide) ?_
  refine va_put (D := (dC, dI)) (ci := 8) (v := .int 1) (ty := .int) (C := R_Opd) (T := F_Opd) (N := 9) hx hb hts i_Opd_init t_Opd t_Opd_ok n_Opd hown hK hP hD hS 0 rfl rfl 6 (by decide) (hts (.fieldLink R_Opd 15 "HomeSystem$Operand" "height" "I") (List.mem_cons_of_mem _ (List.mem_append_left _ (List.mem_of_getElem? (i := 4) rfl)))) (fun _ h9 => h9) rfl (by decide +kernel) rfl rfl (Nat.le_of_ble_eq_true rfl) d_Opd_init_11 (fun H locs hP hD hS => ?_)
  have hP : va_P (dC, dI) classes [(h0, .inr (8, [.int f0, .int f1, .int f2, .int f3, f4, .int 1, .int 1, .int f7, .int f8]))] H := hP
  have hD : va_D A [(h0, .inr (8, [.int f0, .int f1, .int f2, .int f3, f4, .int 1, .int 1, .int f7, .int f8]))] := hD
  refine lv_aload_n hx hb d_Opd_init_14 rfl (lv_at hl 0 rfl) ?_
  refine lv_iload_n hx hb d_Opd_init_15 rfl (lv_at hl 1 rfl) ?_
  refine va_put (D := (dC, dI)) (ci := 8) (v := .int p0) (ty := .int) (C := R_Opd) (T := F_Opd) (N := 9) hx hb hts i_Opd_init t_Opd t_Opd_ok n_Opd hown hK hP hD hS 0 rfl rfl 0 (by decide) (hts (.fieldLink R_Opd 18 "HomeSystem$Operand" "first" "I") (List.mem_cons_of_mem _ (List.mem_append_left _ (List.mem_of_getElem? (i := 5) rfl)))) (fun _ h9 => h9) rfl (by decide +kernel) rfl rfl (Nat.le_of_ble_eq_true rfl) d_Opd_init_16 (fun H locs hP hD hS => ?_)
  have hP : va_P (dC, dI) classes [(h0, .inr (8, [.int p0, .int f1, .int f2, .int f3, f4, .int 1, .int 1, .int f7, .int f8]))] H := hP
  have hD : va_D A [(h0, .inr (8, [.int p0, .int f1, .int f2, .int f3, f4, .int 1, .int 1, .int f7, .int f8]))] := hD
  refine lv_aload_n hx hb d_Opd_init_19 rfl (lv_at hl 0 rfl) ?_
  refine lv_iload_n hx hb d_Opd_init_20 rfl (lv_at hl 2 rfl) ?_
  refine va_put (D := (dC, dI)) (ci := 8) (v := .int p1) (ty := .int) (C := R_Opd) (T := F_Opd) (N := 9) hx hb hts i_Opd_init t_Opd t_Opd_ok n_Opd hown hK hP hD hS 0 rfl rfl 1 (by decide) (hts (.fieldLink R_Opd 21 "HomeSystem$Operand" "sort" "I") (List.mem_cons_of_mem _ (List.mem_append_left _ (List.mem_of_getElem? (i := 6) rfl)))) (fun _ h9 => h9) rfl (by decide +kernel) rfl rfl (Nat.le_of_ble_eq_true rfl) d_Opd_init_21 (fun H locs hP hD hS => ?_)
  have hP : va_P (dC, dI) classes [(h0, .inr (8, [.int p0, .int p1, .int f2, .int f3, f4, .int 1, .int 1, .int f7, .int f8]))] H := hP
  have hD : va_D A [(h0, .inr (8, [.int p0, .int p1, .int f2, .int f3, f4, .int 1, .int 1, .int f7, .int f8]))] := hD
  refine lv_aload_n hx hb d_Opd_init_24 rfl (lv_at hl 0 rfl) ?_
  refine lv_iload_n hx hb d_Opd_init_25 rfl (lv_at hl 3 rfl) ?_
  refine va_put (D := (dC, dI)) (ci := 8) (v := .int p2) (ty := .int) (C := R_Opd) (T := F_Opd) (N := 9) hx hb hts i_Opd_init t_Opd t_Opd_ok n_Opd hown hK hP hD hS 0 rfl rfl 2 (by decide) (hts (.fieldLink R_Opd 24 "HomeSystem$Operand" "state" "I") (List.mem_cons_of_mem _ (List.mem_append_left _ (List.mem_of_getElem? (i := 7) rfl)))) (fun _ h9 => h9) rfl (by decide +kernel) rfl rfl (Nat.le_of_ble_eq_true rfl) d_Opd_init_26 (fun H locs hP hD hS => ?_)
  have hP : va_P (dC, dI) classes [(h0, .inr (8, [.int p0, .int p1, .int p2, .int f3, f4, .int 1, .int 1, .int f7, .int f8]))] H := hP
  have hD : va_D A [(h0, .inr (8, [.int p0, .int p1, .int p2, .int f3, f4, .int 1, .int 1, .int f7, .int f8]))] := hD
  exact W.vret hx hb hr (fun t ht hW => ⟨⟨(p0, p1, p2, 1, 1), rfl, ⟨trivial, rfl, rfl, rfl, rfl, rfl⟩, by rw [ht]; exact hP, va_K.moved hW.alike hK, hAe.symm ▸ hD⟩, hS.F ht⟩) hS.2.2 d_Opd_init_29
abbrev b_Opd_become : ByteArray := prog_6_method_2_code
def y_Opd_become : MethodName := ⟨R_Opd, "become", "(I)V"⟩
def w_Opd_become : List Cond := .code y_Opd_become b_Opd_become 2 none :: ([.fieldLink R_Opd 21 "HomeSystem$Operand" "sort" "I", .fieldLink R_Opd 27 "HomeSystem$Operand" "rank" "I", .fieldLink R_Opd 9 "HomeSystem$Operand" "depth" "I", .fieldLink R_Opd 24 "HomeSystem$Operand" "state" "I"] ++ w_Opd)
theorem i_Opd_become : ∀ w ∈ w_Opd, w ∈ w_Opd_become := fun _ h => List.mem_cons_of_mem _ (List.mem_append_right _ h)
theorem d_Opd_become_0 : decode b_Opd_become 0 = .ok (.aload_n 0, 1) := by decide +kernel
theorem d_Opd_become_1 : decode b_Opd_become 1 = .ok (.iconst 0, 1) := by decide +kernel
theorem d_Opd_become_2 : decode b_Opd_become 2 = .ok (.putfield 21, 3) := by decide +kernel
theorem d_Opd_become_5 : decode b_Opd_become 5 = .ok (.aload_n 0, 1) := by decide +kernel
theorem d_Opd_become_6 : decode b_Opd_become 6 = .ok (.iconst 0, 1) := by decide +kernel
theorem d_Opd_become_7 : decode b_Opd_become 7 = .ok (.putfield 27, 3) := by decide +kernel
theorem d_Opd_become_10 : decode b_Opd_become 10 = .ok (.aload_n 0, 1) := by decide +kernel
theorem d_Opd_become_11 : decode b_Opd_become 11 = .ok (.dup, 1) := by decide +kernel
theorem d_Opd_become_12 : decode b_Opd_become 12 = .ok (.getfield 9, 3) := by decide +kernel
theorem d_Opd_become_15 : decode b_Opd_become 15 = .ok (.iconst 1, 1) := by decide +kernel
theorem d_Opd_become_16 : decode b_Opd_become 16 = .ok (.iadd, 1) := by decide +kernel
theorem d_Opd_become_17 : decode b_Opd_become 17 = .ok (.putfield 9, 3) := by decide +kernel
theorem d_Opd_become_20 : decode b_Opd_become 20 = .ok (.aload_n 0, 1) := by decide +kernel
theorem d_Opd_become_21 : decode b_Opd_become 21 = .ok (.iload_n 1, 1) := by decide +kernel
theorem d_Opd_become_22 : decode b_Opd_become 22 = .ok (.putfield 24, 3) := by decide +kernel
theorem d_Opd_become_25 : decode b_Opd_become 25 = .ok (.return_, 1) := by decide +kernel
set_option maxHeartbeats 4000000 in
set_option maxRecDepth 100000 in
theorem c_Opd_become (l : Launch) (dC : Nat → ClassId) (dI : Nat → Nat → Nat) (h0 sz : Nat) (f0 : Int32) (f1 : Int32) (f2 : Int32) (f3 : Int32) (f4 : Value) (f5 : Int32) (f6 : Int32) (f7 : Int32) (f8 : Int32) (p0 : Int32) : Met l y_Opd_become w_Opd_become ({ frames := 0, cells := 0, slots := 0, locals := 0 }) (va_Pc [.ref h0, .int p0] (fun U => U.heap.size = sz ∧ va_P (dC, dI) classes [(h0, .inr (8, [.int f0, .int f1, .int f2, .int f3, f4, .int f5, .int f6, .int f7, .int f8]))] U.heap ∧ va_K (dC, dI) classes [] U ∧ va_D (fun _ => True) [(h0, .inr (8, [.int f0, .int f1, .int f2, .int f3, f4, .int f5, .int f6, .int f7, .int f8]))])) (va_Qv (fun (u : Int32 × Int32 × Int32 × Int32) => match u with | (u1, u2, u5, u7) => True ∧ u1 = 0 ∧ u2 = p0 ∧ u5 = (f5 + 1) ∧ u7 = 0) (fun (u : Int32 × Int32 × Int32 × Int32) (t : State) => match u with | (u1, u2, u5, u7) => va_P (dC, dI) classes [(h0, .inr (8, [.int f0, .int u1, .int u2, .int f3, f4, .int u5, .int f6, .int u7, .int f8]))] t.heap ∧ va_K (dC, dI) classes [] t ∧ va_D (va_A [(h0, .inr (8, [.int f0, .int f1, .int f2, .int f3, f4, .int f5, .int f6, .int f7, .int f8]))] sz) [(h0, .inr (8, [.int f0, .int u1, .int u2, .int f3, f4, .int u5, .int f6, .int u7, .int f8]))]) (va_A [(h0, .inr (8, [.int f0, .int f1, .int f2, .int f3, f4, .int f5, .int f6, .int f7, .int f8]))] sz)) 0 0 (va_A [(h0, .inr (8, [.int f0, .int f1, .int f2, .int f3, f4, .int f5, .int f6, .int f7, .int f8]))] sz) := by
  refine Met.ofW (cc := b_Opd_become) (maxL := 2) (ret := none) (by decide) rfl ?_
  intro p e s m args below meth c s₁ B hml hv
  obtain ⟨rfl, hsz, hP, hK, hD0⟩ := hv
  have hx := B.exec
  have hb := B.bytes
  have hr := B.returns
  have hts := atoms_spec (ws := w_Opd_become) B.pre
  have hown : s.vm.findClass R_Opd = some m.cls := findClass_of_methodNamed B.named
  have hlocks := B.notSynchronized
  subst hsz
  have hD := hD0.self (sz := s.heap.size)
  generalize hAe : va_A [(h0, .inr (8, [.int f0, .int f1, .int f2, .int f3, f4, .int f5, .int f6, .int f7, .int f8]))] s.heap.size = A at hD ⊢
  have hS : va_S A s.heap s.heap [] := va_S.rf
  have hl := lv_entry ([.ref h0, .int p0]) (n := 2) (Nat.le_of_ble_eq_true rfl)
  rw [lg_entry_eq]
  generalize (lg_sl ([.ref h0, .int p0]) ++ List.replicate (2 - (lg_sl ([.ref h0, .int p0])).length) Slot.unset).toArray = ls at hl ⊢
  have hl : lv_has ls 2 [(0, .ref h0), (1, .int p0)] := hl
  refine lv_aload_n hx hb d_Opd_become_0 rfl (lv_at hl 0 rfl) ?_
  refine lv_iconst (v := 0) hx hb d_Opd_become_1 (by decide) ?_
  refine va_put (D := (dC, dI)) (ci := 8) (v := .int 0) (ty := .int) (C := R_Opd) (T := F_Opd) (N := 9) hx hb hts i_Opd_become t_Opd t_Opd_ok n_Opd hown hK hP hD hS 0 rfl rfl 1 (by decide) (hts (.fieldLink R_Opd 21 "HomeSystem$Operand" "sort" "I") (List.mem_cons_of_mem _ (List.mem_append_left _ (List.mem_of_getElem? (i := 0) rfl)))) (fun _ h9 => h9) rfl (by decide +kernel) rfl rfl (Nat.le_of_ble_eq_true rfl) d_Opd_become_2 (fun H locs hP hD hS => ?_)
  have hP : va_P (dC, dI) classes [(h0, .inr (8, [.int f0, .int 0, .int f2, .int f3, f4, .int f5, .int f6, .int f7, .int f8]))] H := hP
  have hD : va_D A [(h0, .inr (8, [.int f0, .int 0, .int f2, .int f3, f4, .int f5, .int f6, .int f7, .int f8]))] := hD
  refine lv_aload_n hx hb d_Opd_become_5 rfl (lv_at hl 0 rfl) ?_
  refine lv_iconst (v := 0) hx hb d_Opd_become_6 (by decide) ?_
  refine va_put (D := (dC, dI)) (ci := 8) (v := .int 0) (ty := .int) (C := R_Opd) (T := F_Opd) (N := 9) hx hb hts i_Opd_become t_Opd t_Opd_ok n_Opd hown hK hP hD hS 0 rfl rfl 7 (by decide) (hts (.fieldLink R_Opd 27 "HomeSystem$Operand" "rank" "I") (List.mem_cons_of_mem _ (List.mem_append_left _ (List.mem_of_getElem? (i := 1) rfl)))) (fun _ h9 => h9) rfl (by decide +kernel) rfl rfl (Nat.le_of_ble_eq_true rfl) d_Opd_become_7 (fun H locs hP hD hS => ?_)
  have hP : va_P (dC, dI) classes [(h0, .inr (8, [.int f0, .int 0, .int f2, .int f3, f4, .int f5, .int f6, .int 0, .int f8]))] H := hP
  have hD : va_D A [(h0, .inr (8, [.int f0, .int 0, .int f2, .int f3, f4, .int f5, .int f6, .int 0, .int f8]))] := hD
  refine lv_aload_n hx hb d_Opd_become_10 rfl (lv_at hl 0 rfl) ?_
  refine lv_dup hx hb d_Opd_become_11 rfl ?_
  refine va_get (D := (dC, dI)) (ci := 8) (v := .int f5) (C := R_Opd) (T := F_Opd) (N := 9) hx hb hts i_Opd_become hown hK hP 0 rfl rfl 5 (by decide) (hts (.fieldLink R_Opd 9 "HomeSystem$Operand" "depth" "I") (List.mem_cons_of_mem _ (List.mem_append_left _ (List.mem_of_getElem? (i := 2) rfl)))) (fun _ h9 => h9) rfl d_Opd_become_12 ?_
  refine lv_iconst (v := 1) hx hb d_Opd_become_15 (by decide) ?_
  refine lv_iadd hx hb d_Opd_become_16 ?_
  refine va_put (D := (dC, dI)) (ci := 8) (v := .int (f5 + 1)) (ty := .int) (C := R_Opd) (T := F_Opd) (N := 9) hx hb hts i_Opd_become t_Opd t_Opd_ok n_Opd hown hK hP hD hS 0 rfl rfl 5 (by decide) (hts (.fieldLink R_Opd 9 "HomeSystem$Operand" "depth" "I") (List.mem_cons_of_mem _ (List.mem_append_left _ (List.mem_of_getElem? (i := 2) rfl)))) (fun _ h9 => h9) rfl (by decide +kernel) rfl rfl (Nat.le_of_ble_eq_true rfl) d_Opd_become_17 (fun H locs hP hD hS => ?_)
  have hP : va_P (dC, dI) classes [(h0, .inr (8, [.int f0, .int 0, .int f2, .int f3, f4, .int (f5 + 1), .int f6, .int 0, .int f8]))] H := hP
  have hD : va_D A [(h0, .inr (8, [.int f0, .int 0, .int f2, .int f3, f4, .int (f5 + 1), .int f6, .int 0, .int f8]))] := hD
  refine lv_aload_n hx hb d_Opd_become_20 rfl (lv_at hl 0 rfl) ?_
  refine lv_iload_n hx hb d_Opd_become_21 rfl (lv_at hl 1 rfl) ?_
  refine va_put (D := (dC, dI)) (ci := 8) (v := .int p0) (ty := .int) (C := R_Opd) (T := F_Opd) (N := 9) hx hb hts i_Opd_become t_Opd t_Opd_ok n_Opd hown hK hP hD hS 0 rfl rfl 2 (by decide) (hts (.fieldLink R_Opd 24 "HomeSystem$Operand" "state" "I") (List.mem_cons_of_mem _ (List.mem_append_left _ (List.mem_of_getElem? (i := 3) rfl)))) (fun _ h9 => h9) rfl (by decide +kernel) rfl rfl (Nat.le_of_ble_eq_true rfl) d_Opd_become_22 (fun H locs hP hD hS => ?_)
  have hP : va_P (dC, dI) classes [(h0, .inr (8, [.int f0, .int 0, .int p0, .int f3, f4, .int (f5 + 1), .int f6, .int 0, .int f8]))] H := hP
  have hD : va_D A [(h0, .inr (8, [.int f0, .int 0, .int p0, .int f3, f4, .int (f5 + 1), .int f6, .int 0, .int f8]))] := hD
  exact W.vret hx hb hr (fun t ht hW => ⟨⟨(0, p0, (f5 + 1), 0), rfl, ⟨trivial, rfl, rfl, rfl, rfl⟩, by rw [ht]; exact hP, va_K.moved hW.alike hK, hAe.symm ▸ hD⟩, hS.F ht⟩) hS.2.2 d_Opd_become_25
abbrev b_Sym_init : ByteArray := prog_9_method_1_code
def y_Sym_init : MethodName := ⟨R_Sym, "<init>", "(II)V"⟩
def w_Sym_init : List Cond := .code y_Sym_init b_Sym_init 3 none :: ([.methodLink R_Sym 1 objectInit, .instanceMethod objectInit, .code objectInit ⟨#[0xb1]⟩ 1 none, .fieldLink R_Sym 7 "HomeSystem$Symbol" "name" "I", .fieldLink R_Sym 13 "HomeSystem$Symbol" "sort" "I"] ++ w_Sym)
theorem i_Sym_init : ∀ w ∈ w_Sym, w ∈ w_Sym_init := fun _ h => List.mem_cons_of_mem _ (List.mem_append_right _ h)
theorem d_Sym_init_0 : decode b_Sym_init 0 = .ok (.aload_n 0, 1) := by decide +kernel
theorem d_Sym_init_1 : decode b_Sym_init 1 = .ok (.invokespecial 1, 3) := by decide +kernel
theorem d_Sym_init_4 : decode b_Sym_init 4 = .ok (.aload_n 0, 1) := by decide +kernel
theorem d_Sym_init_5 : decode b_Sym_init 5 = .ok (.iload_n 1, 1) := by decide +kernel
theorem d_Sym_init_6 : decode b_Sym_init 6 = .ok (.putfield 7, 3) := by decide +kernel
theorem d_Sym_init_9 : decode b_Sym_init 9 = .ok (.aload_n 0, 1) := by decide +kernel
theorem d_Sym_init_10 : decode b_Sym_init 10 = .ok (.iload_n 2, 1) := by decide +kernel
theorem d_Sym_init_11 : decode b_Sym_init 11 = .ok (.putfield 13, 3) := by decide +kernel
theorem d_Sym_init_14 : decode b_Sym_init 14 = .ok (.return_, 1) := by decide +kernel
set_option maxHeartbeats 4000000 in
set_option maxRecDepth 100000 in
theorem c_Sym_init (l : Launch) (dC : Nat → ClassId) (dI : Nat → Nat → Nat) (h0 sz : Nat) (f0 : Int32) (f1 : Int32) (f2 : Int32) (f3 : Int32) (f4 : Int32) (f5 : Int32) (f6 : Int32) (p0 : Int32) (p1 : Int32) : Met l y_Sym_init w_Sym_init ({ frames := 1, cells := 0, slots := 0, locals := 12 }) (va_Pc [.ref h0, .int p0, .int p1] (fun U => U.heap.size = sz ∧ va_P (dC, dI) classes [(h0, .inr (3, [.int f0, .int f1, .int f2, .int f3, .int f4, .int f5, .int f6]))] U.heap ∧ va_K (dC, dI) classes [] U ∧ va_D (fun _ => True) [(h0, .inr (3, [.int f0, .int f1, .int f2, .int f3, .int f4, .int f5, .int f6]))])) (va_Qv (fun (u : Int32 × Int32) => match u with | (u0, u1) => True ∧ u0 = p0 ∧ u1 = p1) (fun (u : Int32 × Int32) (t : State) => match u with | (u0, u1) => va_P (dC, dI) classes [(h0, .inr (3, [.int u0, .int u1, .int f2, .int f3, .int f4, .int f5, .int f6]))] t.heap ∧ va_K (dC, dI) classes [] t ∧ va_D (va_A [(h0, .inr (3, [.int f0, .int f1, .int f2, .int f3, .int f4, .int f5, .int f6]))] sz) [(h0, .inr (3, [.int u0, .int u1, .int f2, .int f3, .int f4, .int f5, .int f6]))]) (va_A [(h0, .inr (3, [.int f0, .int f1, .int f2, .int f3, .int f4, .int f5, .int f6]))] sz)) 0 0 (va_A [(h0, .inr (3, [.int f0, .int f1, .int f2, .int f3, .int f4, .int f5, .int f6]))] sz) := by
  refine Met.ofW (cc := b_Sym_init) (maxL := 3) (ret := none) (by decide) rfl ?_
  intro p e s m args below meth c s₁ B hml hv
  obtain ⟨rfl, hsz, hP, hK, hD0⟩ := hv
  have hx := B.exec
  have hb := B.bytes
  have hr := B.returns
  have hts := atoms_spec (ws := w_Sym_init) B.pre
  have hown : s.vm.findClass R_Sym = some m.cls := findClass_of_methodNamed B.named
  have hlocks := B.notSynchronized
  have hin : meth.name = "<init>" := (name_of_methodNamed B.named B.method).1
  subst hsz
  have hD := hD0.self (sz := s.heap.size)
  generalize hAe : va_A [(h0, .inr (3, [.int f0, .int f1, .int f2, .int f3, .int f4, .int f5, .int f6]))] s.heap.size = A at hD ⊢
  have hS : va_S A s.heap s.heap [] := va_S.rf
  have hl := lv_entry ([.ref h0, .int p0, .int p1]) (n := 3) (Nat.le_of_ble_eq_true rfl)
  rw [lg_entry_eq]
  generalize (lg_sl ([.ref h0, .int p0, .int p1]) ++ List.replicate (3 - (lg_sl ([.ref h0, .int p0, .int p1])).length) Slot.unset).toArray = ls at hl ⊢
  have hl : lv_has ls 3 [(0, .ref h0), (1, .int p0), (2, .int p1)] := hl
  refine lv_aload_n hx hb d_Sym_init_0 rfl (lv_at hl 0 rfl) ?_
  refine W.objInit hx hb hown (hts (.methodLink R_Sym 1 objectInit) (List.mem_cons_of_mem _ (List.mem_append_left _ (List.mem_of_getElem? (i := 0) rfl)))) (hts (.instanceMethod objectInit) (List.mem_cons_of_mem _ (List.mem_append_left _ (List.mem_of_getElem? (i := 1) rfl)))) (hts _ (List.mem_cons_of_mem _ (List.mem_append_left _ (List.mem_of_getElem? (i := 2) rfl)))) rfl (by rw [hml]; exact hl.1) rfl d_Sym_init_1 (Nat.le_of_ble_eq_true rfl) (Nat.le_of_ble_eq_true rfl) ?_
  refine W.eq (g2 := F0 m 4 ls []) rfl ?_
  refine lv_aload_n hx hb d_Sym_init_4 rfl (lv_at hl 0 rfl) ?_
  refine lv_iload_n hx hb d_Sym_init_5 rfl (lv_at hl 1 rfl) ?_
  refine va_putF (D := (dC, dI)) (ci := 3) (v := .int p0) (ty := .int) (C := R_Sym) (T := F_Sym) (N := 7) hx hb hts i_Sym_init t_Sym t_Sym_ok n_Sym hown hK hP hD hS 0 rfl rfl 0 (by decide) (hts (.fieldLink R_Sym 7 "HomeSystem$Symbol" "name" "I") (List.mem_cons_of_mem _ (List.mem_append_left _ (List.mem_of_getElem? (i := 3) rfl)))) (fun _ h9 => h9) rfl hin rfl (by decide +kernel) rfl rfl (Nat.le_of_ble_eq_true rfl) d_Sym_init_6 (fun H locs hP hD hS => ?_)
  have hP : va_P (dC, dI) classes [(h0, .inr (3, [.int p0, .int f1, .int f2, .int f3, .int f4, .int f5, .int f6]))] H := hP
  have hD : va_D A [(h0, .inr (3, [.int p0, .int f1, .int f2, .int f3, .int f4, .int f5, .int f6]))] := hD
  refine lv_aload_n hx hb d_Sym_init_9 rfl (lv_at hl 0 rfl) ?_
  refine lv_iload_n hx hb d_Sym_init_10 rfl (lv_at hl 2 rfl) ?_
  refine va_putF (D := (dC, dI)) (ci := 3) (v := .int p1) (ty := .int) (C := R_Sym) (T := F_Sym) (N := 7) hx hb hts i_Sym_init t_Sym t_Sym_ok n_Sym hown hK hP hD hS 0 rfl rfl 1 (by decide) (hts (.fieldLink R_Sym 13 "HomeSystem$Symbol" "sort" "I") (List.mem_cons_of_mem _ (List.mem_append_left _ (List.mem_of_getElem? (i := 4) rfl)))) (fun _ h9 => h9) rfl hin rfl (by decide +kernel) rfl rfl (Nat.le_of_ble_eq_true rfl) d_Sym_init_11 (fun H locs hP hD hS => ?_)
  have hP : va_P (dC, dI) classes [(h0, .inr (3, [.int p0, .int p1, .int f2, .int f3, .int f4, .int f5, .int f6]))] H := hP
  have hD : va_D A [(h0, .inr (3, [.int p0, .int p1, .int f2, .int f3, .int f4, .int f5, .int f6]))] := hD
  exact W.vret hx hb hr (fun t ht hW => ⟨⟨(p0, p1), rfl, ⟨trivial, rfl, rfl⟩, by rw [ht]; exact hP, va_K.moved hW.alike hK, hAe.symm ▸ hD⟩, hS.F ht⟩) hS.2.2 d_Sym_init_14
abbrev b_Hs_place : ByteArray := prog_1_method_6_code
def y_Hs_place : MethodName := ⟨R_Hs, "place", "()I"⟩
def w_Hs_place : List Cond := .code y_Hs_place b_Hs_place 1 (some .int) :: ([.fieldLink R_Hs 73 "HomeSystem" "told" "I"] ++ w_Hs)
theorem i_Hs_place : ∀ w ∈ w_Hs, w ∈ w_Hs_place := fun _ h => List.mem_cons_of_mem _ (List.mem_append_right _ h)
theorem d_Hs_place_0 : decode b_Hs_place 0 = .ok (.aload_n 0, 1) := by decide +kernel
theorem d_Hs_place_1 : decode b_Hs_place 1 = .ok (.getfield 73, 3) := by decide +kernel
theorem d_Hs_place_4 : decode b_Hs_place 4 = .ok (.ireturn, 1) := by decide +kernel
set_option maxHeartbeats 4000000 in
set_option maxRecDepth 100000 in
theorem c_Hs_place (l : Launch) (dC : Nat → ClassId) (dI : Nat → Nat → Nat) (h0 sz : Nat) (f0 : Value) (f1 : Value) (f2 : Value) (f3 : Int32) (f4 : Int32) (f5 : Int32)  : Met l y_Hs_place w_Hs_place ({ frames := 0, cells := 0, slots := 0, locals := 0 }) (va_Pc [.ref h0] (fun U => U.heap.size = sz ∧ va_P (dC, dI) classes [(h0, .inr (0, [f0, f1, f2, .int f3, .int f4, .int f5]))] U.heap ∧ va_K (dC, dI) classes [] U ∧ va_D (fun _ => True) [(h0, .inr (0, [f0, f1, f2, .int f3, .int f4, .int f5]))])) (va_Qi (fun (r : Int32) (u : Unit) => match u with | _ => r = f4 ∧ True) (fun (u : Unit) (t : State) => match u with | _ => va_P (dC, dI) classes [(h0, .inr (0, [f0, f1, f2, .int f3, .int f4, .int f5]))] t.heap ∧ va_K (dC, dI) classes [] t ∧ va_D (va_A [(h0, .inr (0, [f0, f1, f2, .int f3, .int f4, .int f5]))] sz) [(h0, .inr (0, [f0, f1, f2, .int f3, .int f4, .int f5]))]) (va_A [(h0, .inr (0, [f0, f1, f2, .int f3, .int f4, .int f5]))] sz)) 0 0 (va_A [(h0, .inr (0, [f0, f1, f2, .int f3, .int f4, .int f5]))] sz) := by
  refine Met.ofW (cc := b_Hs_place) (maxL := 1) (ret := (some .int)) (by decide) rfl ?_
  intro p e s m args below meth c s₁ B hml hv
  obtain ⟨rfl, hsz, hP, hK, hD0⟩ := hv
  have hx := B.exec
  have hb := B.bytes
  have hr := B.returns
  have hts := atoms_spec (ws := w_Hs_place) B.pre
  have hown : s.vm.findClass R_Hs = some m.cls := findClass_of_methodNamed B.named
  have hlocks := B.notSynchronized
  subst hsz
  have hD := hD0.self (sz := s.heap.size)
  generalize hAe : va_A [(h0, .inr (0, [f0, f1, f2, .int f3, .int f4, .int f5]))] s.heap.size = A at hD ⊢
  have hS : va_S A s.heap s.heap [] := va_S.rf
  have hl := lv_entry ([.ref h0]) (n := 1) (Nat.le_of_ble_eq_true rfl)
  rw [lg_entry_eq]
  generalize (lg_sl ([.ref h0]) ++ List.replicate (1 - (lg_sl ([.ref h0])).length) Slot.unset).toArray = ls at hl ⊢
  have hl : lv_has ls 1 [(0, .ref h0)] := hl
  refine lv_aload_n hx hb d_Hs_place_0 rfl (lv_at hl 0 rfl) ?_
  refine va_get (D := (dC, dI)) (ci := 0) (v := .int f4) (C := R_Hs) (T := F_Hs) (N := 6) hx hb hts i_Hs_place hown hK hP 0 rfl rfl 4 (by decide) (hts (.fieldLink R_Hs 73 "HomeSystem" "told" "I") (List.mem_cons_of_mem _ (List.mem_append_left _ (List.mem_of_getElem? (i := 0) rfl)))) (fun _ h9 => h9) rfl d_Hs_place_1 ?_
  exact W.iret (v := f4) hx hb hr (fun t ht hW => ⟨⟨f4, (), rfl, ⟨rfl, trivial⟩, by rw [ht]; exact hP, va_K.moved hW.alike hK, hAe.symm ▸ hD⟩, hS.F ht⟩) hS.2.2 d_Hs_place_4
abbrev b_Hs_pages : ByteArray := prog_1_method_17_code
def y_Hs_pages : MethodName := ⟨R_Hs, "pages", "()I"⟩
def w_Hs_pages : List Cond := .code y_Hs_pages b_Hs_pages 1 (some .int) :: ([] ++ w_Hs)
theorem i_Hs_pages : ∀ w ∈ w_Hs, w ∈ w_Hs_pages := fun _ h => List.mem_cons_of_mem _ (List.mem_append_right _ h)
theorem d_Hs_pages_0 : decode b_Hs_pages 0 = .ok (.iconst 0, 1) := by decide +kernel
theorem d_Hs_pages_1 : decode b_Hs_pages 1 = .ok (.ireturn, 1) := by decide +kernel
set_option maxHeartbeats 4000000 in
set_option maxRecDepth 100000 in
theorem c_Hs_pages (l : Launch) (dC : Nat → ClassId) (dI : Nat → Nat → Nat) (h0 sz : Nat) (f0 : Value) (f1 : Value) (f2 : Value) (f3 : Int32) (f4 : Int32) (f5 : Int32)  : Met l y_Hs_pages w_Hs_pages ({ frames := 0, cells := 0, slots := 0, locals := 0 }) (va_Pc [.ref h0] (fun U => U.heap.size = sz ∧ va_P (dC, dI) classes [(h0, .inr (0, [f0, f1, f2, .int f3, .int f4, .int f5]))] U.heap ∧ va_K (dC, dI) classes [] U ∧ va_D (fun _ => True) [(h0, .inr (0, [f0, f1, f2, .int f3, .int f4, .int f5]))])) (va_Qi (fun (r : Int32) (u : Unit) => match u with | _ => r = 0 ∧ True) (fun (u : Unit) (t : State) => match u with | _ => va_P (dC, dI) classes [(h0, .inr (0, [f0, f1, f2, .int f3, .int f4, .int f5]))] t.heap ∧ va_K (dC, dI) classes [] t ∧ va_D (va_A [(h0, .inr (0, [f0, f1, f2, .int f3, .int f4, .int f5]))] sz) [(h0, .inr (0, [f0, f1, f2, .int f3, .int f4, .int f5]))]) (va_A [(h0, .inr (0, [f0, f1, f2, .int f3, .int f4, .int f5]))] sz)) 0 0 (va_A [(h0, .inr (0, [f0, f1, f2, .int f3, .int f4, .int f5]))] sz) := by
  refine Met.ofW (cc := b_Hs_pages) (maxL := 1) (ret := (some .int)) (by decide) rfl ?_
  intro p e s m args below meth c s₁ B hml hv
  obtain ⟨rfl, hsz, hP, hK, hD0⟩ := hv
  have hx := B.exec
  have hb := B.bytes
  have hr := B.returns
  have hts := atoms_spec (ws := w_Hs_pages) B.pre
  have hown : s.vm.findClass R_Hs = some m.cls := findClass_of_methodNamed B.named
  have hlocks := B.notSynchronized
  subst hsz
  have hD := hD0.self (sz := s.heap.size)
  generalize hAe : va_A [(h0, .inr (0, [f0, f1, f2, .int f3, .int f4, .int f5]))] s.heap.size = A at hD ⊢
  have hS : va_S A s.heap s.heap [] := va_S.rf
  have hl := lv_entry ([.ref h0]) (n := 1) (Nat.le_of_ble_eq_true rfl)
  rw [lg_entry_eq]
  generalize (lg_sl ([.ref h0]) ++ List.replicate (1 - (lg_sl ([.ref h0])).length) Slot.unset).toArray = ls at hl ⊢
  have hl : lv_has ls 1 [(0, .ref h0)] := hl
  refine lv_iconst (v := 0) hx hb d_Hs_pages_0 (by decide) ?_
  exact W.iret (v := 0) hx hb hr (fun t ht hW => ⟨⟨0, (), rfl, ⟨rfl, trivial⟩, by rw [ht]; exact hP, va_K.moved hW.alike hK, hAe.symm ▸ hD⟩, hS.F ht⟩) hS.2.2 d_Hs_pages_1
abbrev b_Hs_wrong : ByteArray := prog_1_method_18_code
def y_Hs_wrong : MethodName := ⟨R_Hs, "wrong", "()I"⟩
def w_Hs_wrong : List Cond := .code y_Hs_wrong b_Hs_wrong 1 (some .int) :: ([] ++ w_Hs)
theorem i_Hs_wrong : ∀ w ∈ w_Hs, w ∈ w_Hs_wrong := fun _ h => List.mem_cons_of_mem _ (List.mem_append_right _ h)
theorem d_Hs_wrong_0 : decode b_Hs_wrong 0 = .ok (.iconst 0, 1) := by decide +kernel
theorem d_Hs_wrong_1 : decode b_Hs_wrong 1 = .ok (.ireturn, 1) := by decide +kernel
set_option maxHeartbeats 4000000 in
set_option maxRecDepth 100000 in
theorem c_Hs_wrong (l : Launch) (dC : Nat → ClassId) (dI : Nat → Nat → Nat) (h0 sz : Nat) (f0 : Value) (f1 : Value) (f2 : Value) (f3 : Int32) (f4 : Int32) (f5 : Int32)  : Met l y_Hs_wrong w_Hs_wrong ({ frames := 0, cells := 0, slots := 0, locals := 0 }) (va_Pc [.ref h0] (fun U => U.heap.size = sz ∧ va_P (dC, dI) classes [(h0, .inr (0, [f0, f1, f2, .int f3, .int f4, .int f5]))] U.heap ∧ va_K (dC, dI) classes [] U ∧ va_D (fun _ => True) [(h0, .inr (0, [f0, f1, f2, .int f3, .int f4, .int f5]))])) (va_Qi (fun (r : Int32) (u : Unit) => match u with | _ => r = 0 ∧ True) (fun (u : Unit) (t : State) => match u with | _ => va_P (dC, dI) classes [(h0, .inr (0, [f0, f1, f2, .int f3, .int f4, .int f5]))] t.heap ∧ va_K (dC, dI) classes [] t ∧ va_D (va_A [(h0, .inr (0, [f0, f1, f2, .int f3, .int f4, .int f5]))] sz) [(h0, .inr (0, [f0, f1, f2, .int f3, .int f4, .int f5]))]) (va_A [(h0, .inr (0, [f0, f1, f2, .int f3, .int f4, .int f5]))] sz)) 0 0 (va_A [(h0, .inr (0, [f0, f1, f2, .int f3, .int f4, .int f5]))] sz) := by
  refine Met.ofW (cc := b_Hs_wrong) (maxL := 1) (ret := (some .int)) (by decide) rfl ?_
  intro p e s m args below meth c s₁ B hml hv
  obtain ⟨rfl, hsz, hP, hK, hD0⟩ := hv
  have hx := B.exec
  have hb := B.bytes
  have hr := B.returns
  have hts := atoms_spec (ws := w_Hs_wrong) B.pre
  have hown : s.vm.findClass R_Hs = some m.cls := findClass_of_methodNamed B.named
  have hlocks := B.notSynchronized
  subst hsz
  have hD := hD0.self (sz := s.heap.size)
  generalize hAe : va_A [(h0, .inr (0, [f0, f1, f2, .int f3, .int f4, .int f5]))] s.heap.size = A at hD ⊢
  have hS : va_S A s.heap s.heap [] := va_S.rf
  have hl := lv_entry ([.ref h0]) (n := 1) (Nat.le_of_ble_eq_true rfl)
  rw [lg_entry_eq]
  generalize (lg_sl ([.ref h0]) ++ List.replicate (1 - (lg_sl ([.ref h0])).length) Slot.unset).toArray = ls at hl ⊢
  have hl : lv_has ls 1 [(0, .ref h0)] := hl
  refine lv_iconst (v := 0) hx hb d_Hs_wrong_0 (by decide) ?_
  exact W.iret (v := 0) hx hb hr (fun t ht hW => ⟨⟨0, (), rfl, ⟨rfl, trivial⟩, by rw [ht]; exact hP, va_K.moved hW.alike hK, hAe.symm ▸ hD⟩, hS.F ht⟩) hS.2.2 d_Hs_wrong_1
abbrev b_Hs_life : ByteArray := prog_1_method_19_code
def y_Hs_life : MethodName := ⟨R_Hs, "life", "()I"⟩
def w_Hs_life : List Cond := .code y_Hs_life b_Hs_life 1 (some .int) :: ([.fieldLink R_Hs 45 "HomeSystem" "lifeLeft" "I"] ++ w_Hs)
theorem i_Hs_life : ∀ w ∈ w_Hs, w ∈ w_Hs_life := fun _ h => List.mem_cons_of_mem _ (List.mem_append_right _ h)
theorem d_Hs_life_0 : decode b_Hs_life 0 = .ok (.aload_n 0, 1) := by decide +kernel
theorem d_Hs_life_1 : decode b_Hs_life 1 = .ok (.getfield 45, 3) := by decide +kernel
theorem d_Hs_life_4 : decode b_Hs_life 4 = .ok (.ireturn, 1) := by decide +kernel
set_option maxHeartbeats 4000000 in
set_option maxRecDepth 100000 in
theorem c_Hs_life (l : Launch) (dC : Nat → ClassId) (dI : Nat → Nat → Nat) (h0 sz : Nat) (f0 : Value) (f1 : Value) (f2 : Value) (f3 : Int32) (f4 : Int32) (f5 : Int32)  : Met l y_Hs_life w_Hs_life ({ frames := 0, cells := 0, slots := 0, locals := 0 }) (va_Pc [.ref h0] (fun U => U.heap.size = sz ∧ va_P (dC, dI) classes [(h0, .inr (0, [f0, f1, f2, .int f3, .int f4, .int f5]))] U.heap ∧ va_K (dC, dI) classes [] U ∧ va_D (fun _ => True) [(h0, .inr (0, [f0, f1, f2, .int f3, .int f4, .int f5]))])) (va_Qi (fun (r : Int32) (u : Unit) => match u with | _ => r = f5 ∧ True) (fun (u : Unit) (t : State) => match u with | _ => va_P (dC, dI) classes [(h0, .inr (0, [f0, f1, f2, .int f3, .int f4, .int f5]))] t.heap ∧ va_K (dC, dI) classes [] t ∧ va_D (va_A [(h0, .inr (0, [f0, f1, f2, .int f3, .int f4, .int f5]))] sz) [(h0, .inr (0, [f0, f1, f2, .int f3, .int f4, .int f5]))]) (va_A [(h0, .inr (0, [f0, f1, f2, .int f3, .int f4, .int f5]))] sz)) 0 0 (va_A [(h0, .inr (0, [f0, f1, f2, .int f3, .int f4, .int f5]))] sz) := by
  refine Met.ofW (cc := b_Hs_life) (maxL := 1) (ret := (some .int)) (by decide) rfl ?_
  intro p e s m args below meth c s₁ B hml hv
  obtain ⟨rfl, hsz, hP, hK, hD0⟩ := hv
  have hx := B.exec
  have hb := B.bytes
  have hr := B.returns
  have hts := atoms_spec (ws := w_Hs_life) B.pre
  have hown : s.vm.findClass R_Hs = some m.cls := findClass_of_methodNamed B.named
  have hlocks := B.notSynchronized
  subst hsz
  have hD := hD0.self (sz := s.heap.size)
  generalize hAe : va_A [(h0, .inr (0, [f0, f1, f2, .int f3, .int f4, .int f5]))] s.heap.size = A at hD ⊢
  have hS : va_S A s.heap s.heap [] := va_S.rf
  have hl := lv_entry ([.ref h0]) (n := 1) (Nat.le_of_ble_eq_true rfl)
  rw [lg_entry_eq]
  generalize (lg_sl ([.ref h0]) ++ List.replicate (1 - (lg_sl ([.ref h0])).length) Slot.unset).toArray = ls at hl ⊢
  have hl : lv_has ls 1 [(0, .ref h0)] := hl
  refine lv_aload_n hx hb d_Hs_life_0 rfl (lv_at hl 0 rfl) ?_
  refine va_get (D := (dC, dI)) (ci := 0) (v := .int f5) (C := R_Hs) (T := F_Hs) (N := 6) hx hb hts i_Hs_life hown hK hP 0 rfl rfl 5 (by decide) (hts (.fieldLink R_Hs 45 "HomeSystem" "lifeLeft" "I") (List.mem_cons_of_mem _ (List.mem_append_left _ (List.mem_of_getElem? (i := 0) rfl)))) (fun _ h9 => h9) rfl d_Hs_life_1 ?_
  exact W.iret (v := f5) hx hb hr (fun t ht hW => ⟨⟨f5, (), rfl, ⟨rfl, trivial⟩, by rw [ht]; exact hP, va_K.moved hW.alike hK, hAe.symm ▸ hD⟩, hS.F ht⟩) hS.2.2 d_Hs_life_4
abbrev b_Mo_place : ByteArray := prog_14_method_7_code
def y_Mo_place : MethodName := ⟨R_Mo, "place", "()I"⟩
def w_Mo_place : List Cond := .code y_Mo_place b_Mo_place 1 (some .int) :: ([.fieldLink R_Mo 35 "HomeSystemModel" "thrown" "I", .fieldLink R_Mo 52 "HomeSystemModel" "place" "I"] ++ w_Mo)
theorem i_Mo_place : ∀ w ∈ w_Mo, w ∈ w_Mo_place := fun _ h => List.mem_cons_of_mem _ (List.mem_append_right _ h)
theorem d_Mo_place_0 : decode b_Mo_place 0 = .ok (.aload_n 0, 1) := by decide +kernel
theorem d_Mo_place_1 : decode b_Mo_place 1 = .ok (.iconst 0, 1) := by decide +kernel
theorem d_Mo_place_2 : decode b_Mo_place 2 = .ok (.putfield 35, 3) := by decide +kernel
theorem d_Mo_place_5 : decode b_Mo_place 5 = .ok (.aload_n 0, 1) := by decide +kernel
theorem d_Mo_place_6 : decode b_Mo_place 6 = .ok (.getfield 52, 3) := by decide +kernel
theorem d_Mo_place_9 : decode b_Mo_place 9 = .ok (.ireturn, 1) := by decide +kernel
set_option maxHeartbeats 4000000 in
set_option maxRecDepth 100000 in
theorem c_Mo_place (l : Launch) (dC : Nat → ClassId) (dI : Nat → Nat → Nat) (h0 sz : Nat) (f0 : Int32) (f1 : Value) (f2 : Int32) (f3 : Int32) (f4 : Value) (f5 : Value) (f6 : Value) (f7 : Int32) (f8 : Int32) (f9 : Int32) (f10 : Int32)  : Met l y_Mo_place w_Mo_place ({ frames := 0, cells := 0, slots := 0, locals := 0 }) (va_Pc [.ref h0] (fun U => U.heap.size = sz ∧ va_P (dC, dI) classes [(h0, .inr (11, [.int f0, f1, .int f2, .int f3, f4, f5, f6, .int f7, .int f8, .int f9, .int f10]))] U.heap ∧ va_K (dC, dI) classes [] U ∧ va_D (fun _ => True) [(h0, .inr (11, [.int f0, f1, .int f2, .int f3, f4, f5, f6, .int f7, .int f8, .int f9, .int f10]))])) (va_Qi (fun (r : Int32) (u : Int32) => match u with | (u0) => r = f3 ∧ True ∧ u0 = 0) (fun (u : Int32) (t : State) => match u with | (u0) => va_P (dC, dI) classes [(h0, .inr (11, [.int u0, f1, .int f2, .int f3, f4, f5, f6, .int f7, .int f8, .int f9, .int f10]))] t.heap ∧ va_K (dC, dI) classes [] t ∧ va_D (va_A [(h0, .inr (11, [.int f0, f1, .int f2, .int f3, f4, f5, f6, .int f7, .int f8, .int f9, .int f10]))] sz) [(h0, .inr (11, [.int u0, f1, .int f2, .int f3, f4, f5, f6, .int f7, .int f8, .int f9, .int f10]))]) (va_A [(h0, .inr (11, [.int f0, f1, .int f2, .int f3, f4, f5, f6, .int f7, .int f8, .int f9, .int f10]))] sz)) 0 0 (va_A [(h0, .inr (11, [.int f0, f1, .int f2, .int f3, f4, f5, f6, .int f7, .int f8, .int f9, .int f10]))] sz) := by
  refine Met.ofW (cc := b_Mo_place) (maxL := 1) (ret := (some .int)) (by decide) rfl ?_
  intro p e s m args below meth c s₁ B hml hv
  obtain ⟨rfl, hsz, hP, hK, hD0⟩ := hv
  have hx := B.exec
  have hb := B.bytes
  have hr := B.returns
  have hts := atoms_spec (ws := w_Mo_place) B.pre
  have hown : s.vm.findClass R_Mo = some m.cls := findClass_of_methodNamed B.named
  have hlocks := B.notSynchronized
  subst hsz
  have hD := hD0.self (sz := s.heap.size)
  generalize hAe : va_A [(h0, .inr (11, [.int f0, f1, .int f2, .int f3, f4, f5, f6, .int f7, .int f8, .int f9, .int f10]))] s.heap.size = A at hD ⊢
  have hS : va_S A s.heap s.heap [] := va_S.rf
  have hl := lv_entry ([.ref h0]) (n := 1) (Nat.le_of_ble_eq_true rfl)
  rw [lg_entry_eq]
  generalize (lg_sl ([.ref h0]) ++ List.replicate (1 - (lg_sl ([.ref h0])).length) Slot.unset).toArray = ls at hl ⊢
  have hl : lv_has ls 1 [(0, .ref h0)] := hl
  refine lv_aload_n hx hb d_Mo_place_0 rfl (lv_at hl 0 rfl) ?_
  refine lv_iconst (v := 0) hx hb d_Mo_place_1 (by decide) ?_
  refine va_put (D := (dC, dI)) (ci := 11) (v := .int 0) (ty := .int) (C := R_Mo) (T := F_Mo) (N := 11) hx hb hts i_Mo_place t_Mo t_Mo_ok n_Mo hown hK hP hD hS 0 rfl rfl 0 (by decide) (hts (.fieldLink R_Mo 35 "HomeSystemModel" "thrown" "I") (List.mem_cons_of_mem _ (List.mem_append_left _ (List.mem_of_getElem? (i := 0) rfl)))) (fun _ h9 => h9) rfl (by decide +kernel) rfl rfl (Nat.le_of_ble_eq_true rfl) d_Mo_place_2 (fun H locs hP hD hS => ?_)
  have hP : va_P (dC, dI) classes [(h0, .inr (11, [.int 0, f1, .int f2, .int f3, f4, f5, f6, .int f7, .int f8, .int f9, .int f10]))] H := hP
  have hD : va_D A [(h0, .inr (11, [.int 0, f1, .int f2, .int f3, f4, f5, f6, .int f7, .int f8, .int f9, .int f10]))] := hD
  refine lv_aload_n hx hb d_Mo_place_5 rfl (lv_at hl 0 rfl) ?_
  refine va_get (D := (dC, dI)) (ci := 11) (v := .int f3) (C := R_Mo) (T := F_Mo) (N := 11) hx hb hts i_Mo_place hown hK hP 0 rfl rfl 3 (by decide) (hts (.fieldLink R_Mo 52 "HomeSystemModel" "place" "I") (List.mem_cons_of_mem _ (List.mem_append_left _ (List.mem_of_getElem? (i := 1) rfl)))) (fun _ h9 => h9) rfl d_Mo_place_6 ?_
  exact W.iret (v := f3) hx hb hr (fun t ht hW => ⟨⟨f3, (0), rfl, ⟨rfl, ⟨trivial, rfl⟩⟩, by rw [ht]; exact hP, va_K.moved hW.alike hK, hAe.symm ▸ hD⟩, hS.F ht⟩) hS.2.2 d_Mo_place_9
abbrev b_Mo_life : ByteArray := prog_14_method_38_code
def y_Mo_life : MethodName := ⟨R_Mo, "life", "()I"⟩
def w_Mo_life : List Cond := .code y_Mo_life b_Mo_life 1 (some .int) :: ([.fieldLink R_Mo 35 "HomeSystemModel" "thrown" "I", .fieldLink R_Mo 29 "HomeSystemModel" "life" "I"] ++ w_Mo)
theorem i_Mo_life : ∀ w ∈ w_Mo, w ∈ w_Mo_life := fun _ h => List.mem_cons_of_mem _ (List.mem_append_right _ h)
theorem d_Mo_life_0 : decode b_Mo_life 0 = .ok (.aload_n 0, 1) := by decide +kernel
theorem d_Mo_life_1 : decode b_Mo_life 1 = .ok (.iconst 0, 1) := by decide +kernel
theorem d_Mo_life_2 : decode b_Mo_life 2 = .ok (.putfield 35, 3) := by decide +kernel
theorem d_Mo_life_5 : decode b_Mo_life 5 = .ok (.aload_n 0, 1) := by decide +kernel
theorem d_Mo_life_6 : decode b_Mo_life 6 = .ok (.getfield 29, 3) := by decide +kernel
theorem d_Mo_life_9 : decode b_Mo_life 9 = .ok (.ireturn, 1) := by decide +kernel
set_option maxHeartbeats 4000000 in
set_option maxRecDepth 100000 in
theorem c_Mo_life (l : Launch) (dC : Nat → ClassId) (dI : Nat → Nat → Nat) (h0 sz : Nat) (f0 : Int32) (f1 : Value) (f2 : Int32) (f3 : Int32) (f4 : Value) (f5 : Value) (f6 : Value) (f7 : Int32) (f8 : Int32) (f9 : Int32) (f10 : Int32)  : Met l y_Mo_life w_Mo_life ({ frames := 0, cells := 0, slots := 0, locals := 0 }) (va_Pc [.ref h0] (fun U => U.heap.size = sz ∧ va_P (dC, dI) classes [(h0, .inr (11, [.int f0, f1, .int f2, .int f3, f4, f5, f6, .int f7, .int f8, .int f9, .int f10]))] U.heap ∧ va_K (dC, dI) classes [] U ∧ va_D (fun _ => True) [(h0, .inr (11, [.int f0, f1, .int f2, .int f3, f4, f5, f6, .int f7, .int f8, .int f9, .int f10]))])) (va_Qi (fun (r : Int32) (u : Int32) => match u with | (u0) => r = f10 ∧ True ∧ u0 = 0) (fun (u : Int32) (t : State) => match u with | (u0) => va_P (dC, dI) classes [(h0, .inr (11, [.int u0, f1, .int f2, .int f3, f4, f5, f6, .int f7, .int f8, .int f9, .int f10]))] t.heap ∧ va_K (dC, dI) classes [] t ∧ va_D (va_A [(h0, .inr (11, [.int f0, f1, .int f2, .int f3, f4, f5, f6, .int f7, .int f8, .int f9, .int f10]))] sz) [(h0, .inr (11, [.int u0, f1, .int f2, .int f3, f4, f5, f6, .int f7, .int f8, .int f9, .int f10]))]) (va_A [(h0, .inr (11, [.int f0, f1, .int f2, .int f3, f4, f5, f6, .int f7, .int f8, .int f9, .int f10]))] sz)) 0 0 (va_A [(h0, .inr (11, [.int f0, f1, .int f2, .int f3, f4, f5, f6, .int f7, .int f8, .int f9, .int f10]))] sz) := by
  refine Met.ofW (cc := b_Mo_life) (maxL := 1) (ret := (some .int)) (by decide) rfl ?_
  intro p e s m args below meth c s₁ B hml hv
  obtain ⟨rfl, hsz, hP, hK, hD0⟩ := hv
  have hx := B.exec
  have hb := B.bytes
  have hr := B.returns
  have hts := atoms_spec (ws := w_Mo_life) B.pre
  have hown : s.vm.findClass R_Mo = some m.cls := findClass_of_methodNamed B.named
  have hlocks := B.notSynchronized
  subst hsz
  have hD := hD0.self (sz := s.heap.size)
  generalize hAe : va_A [(h0, .inr (11, [.int f0, f1, .int f2, .int f3, f4, f5, f6, .int f7, .int f8, .int f9, .int f10]))] s.heap.size = A at hD ⊢
  have hS : va_S A s.heap s.heap [] := va_S.rf
  have hl := lv_entry ([.ref h0]) (n := 1) (Nat.le_of_ble_eq_true rfl)
  rw [lg_entry_eq]
  generalize (lg_sl ([.ref h0]) ++ List.replicate (1 - (lg_sl ([.ref h0])).length) Slot.unset).toArray = ls at hl ⊢
  have hl : lv_has ls 1 [(0, .ref h0)] := hl
  refine lv_aload_n hx hb d_Mo_life_0 rfl (lv_at hl 0 rfl) ?_
  refine lv_iconst (v := 0) hx hb d_Mo_life_1 (by decide) ?_
  refine va_put (D := (dC, dI)) (ci := 11) (v := .int 0) (ty := .int) (C := R_Mo) (T := F_Mo) (N := 11) hx hb hts i_Mo_life t_Mo t_Mo_ok n_Mo hown hK hP hD hS 0 rfl rfl 0 (by decide) (hts (.fieldLink R_Mo 35 "HomeSystemModel" "thrown" "I") (List.mem_cons_of_mem _ (List.mem_append_left _ (List.mem_of_getElem? (i := 0) rfl)))) (fun _ h9 => h9) rfl (by decide +kernel) rfl rfl (Nat.le_of_ble_eq_true rfl) d_Mo_life_2 (fun H locs hP hD hS => ?_)
  have hP : va_P (dC, dI) classes [(h0, .inr (11, [.int 0, f1, .int f2, .int f3, f4, f5, f6, .int f7, .int f8, .int f9, .int f10]))] H := hP
  have hD : va_D A [(h0, .inr (11, [.int 0, f1, .int f2, .int f3, f4, f5, f6, .int f7, .int f8, .int f9, .int f10]))] := hD
  refine lv_aload_n hx hb d_Mo_life_5 rfl (lv_at hl 0 rfl) ?_
  refine va_get (D := (dC, dI)) (ci := 11) (v := .int f10) (C := R_Mo) (T := F_Mo) (N := 11) hx hb hts i_Mo_life hown hK hP 0 rfl rfl 10 (by decide) (hts (.fieldLink R_Mo 29 "HomeSystemModel" "life" "I") (List.mem_cons_of_mem _ (List.mem_append_left _ (List.mem_of_getElem? (i := 1) rfl)))) (fun _ h9 => h9) rfl d_Mo_life_6 ?_
  exact W.iret (v := f10) hx hb hr (fun t ht hW => ⟨⟨f10, (0), rfl, ⟨rfl, ⟨trivial, rfl⟩⟩, by rw [ht]; exact hP, va_K.moved hW.alike hK, hAe.symm ▸ hD⟩, hS.F ht⟩) hS.2.2 d_Mo_life_9
abbrev b_Mo_pages : ByteArray := prog_14_method_39_code
def y_Mo_pages : MethodName := ⟨R_Mo, "pages", "()I"⟩
def w_Mo_pages : List Cond := .code y_Mo_pages b_Mo_pages 1 (some .int) :: ([.fieldLink R_Mo 35 "HomeSystemModel" "thrown" "I"] ++ w_Mo)
theorem i_Mo_pages : ∀ w ∈ w_Mo, w ∈ w_Mo_pages := fun _ h => List.mem_cons_of_mem _ (List.mem_append_right _ h)
theorem d_Mo_pages_0 : decode b_Mo_pages 0 = .ok (.aload_n 0, 1) := by decide +kernel
theorem d_Mo_pages_1 : decode b_Mo_pages 1 = .ok (.iconst 0, 1) := by decide +kernel
theorem d_Mo_pages_2 : decode b_Mo_pages 2 = .ok (.putfield 35, 3) := by decide +kernel
theorem d_Mo_pages_5 : decode b_Mo_pages 5 = .ok (.iconst 0, 1) := by decide +kernel
theorem d_Mo_pages_6 : decode b_Mo_pages 6 = .ok (.ireturn, 1) := by decide +kernel
set_option maxHeartbeats 4000000 in
set_option maxRecDepth 100000 in
theorem c_Mo_pages (l : Launch) (dC : Nat → ClassId) (dI : Nat → Nat → Nat) (h0 sz : Nat) (f0 : Int32) (f1 : Value) (f2 : Int32) (f3 : Int32) (f4 : Value) (f5 : Value) (f6 : Value) (f7 : Int32) (f8 : Int32) (f9 : Int32) (f10 : Int32)  : Met l y_Mo_pages w_Mo_pages ({ frames := 0, cells := 0, slots := 0, locals := 0 }) (va_Pc [.ref h0] (fun U => U.heap.size = sz ∧ va_P (dC, dI) classes [(h0, .inr (11, [.int f0, f1, .int f2, .int f3, f4, f5, f6, .int f7, .int f8, .int f9, .int f10]))] U.heap ∧ va_K (dC, dI) classes [] U ∧ va_D (fun _ => True) [(h0, .inr (11, [.int f0, f1, .int f2, .int f3, f4, f5, f6, .int f7, .int f8, .int f9, .int f10]))])) (va_Qi (fun (r : Int32) (u : Int32) => match u with | (u0) => r = 0 ∧ True ∧ u0 = 0) (fun (u : Int32) (t : State) => match u with | (u0) => va_P (dC, dI) classes [(h0, .inr (11, [.int u0, f1, .int f2, .int f3, f4, f5, f6, .int f7, .int f8, .int f9, .int f10]))] t.heap ∧ va_K (dC, dI) classes [] t ∧ va_D (va_A [(h0, .inr (11, [.int f0, f1, .int f2, .int f3, f4, f5, f6, .int f7, .int f8, .int f9, .int f10]))] sz) [(h0, .inr (11, [.int u0, f1, .int f2, .int f3, f4, f5, f6, .int f7, .int f8, .int f9, .int f10]))]) (va_A [(h0, .inr (11, [.int f0, f1, .int f2, .int f3, f4, f5, f6, .int f7, .int f8, .int f9, .int f10]))] sz)) 0 0 (va_A [(h0, .inr (11, [.int f0, f1, .int f2, .int f3, f4, f5, f6, .int f7, .int f8, .int f9, .int f10]))] sz) := by
  refine Met.ofW (cc := b_Mo_pages) (maxL := 1) (ret := (some .int)) (by decide) rfl ?_
  intro p e s m args below meth c s₁ B hml hv
  obtain ⟨rfl, hsz, hP, hK, hD0⟩ := hv
  have hx := B.exec
  have hb := B.bytes
  have hr := B.returns
  have hts := atoms_spec (ws := w_Mo_pages) B.pre
  have hown : s.vm.findClass R_Mo = some m.cls := findClass_of_methodNamed B.named
  have hlocks := B.notSynchronized
  subst hsz
  have hD := hD0.self (sz := s.heap.size)
  generalize hAe : va_A [(h0, .inr (11, [.int f0, f1, .int f2, .int f3, f4, f5, f6, .int f7, .int f8, .int f9, .int f10]))] s.heap.size = A at hD ⊢
  have hS : va_S A s.heap s.heap [] := va_S.rf
  have hl := lv_entry ([.ref h0]) (n := 1) (Nat.le_of_ble_eq_true rfl)
  rw [lg_entry_eq]
  generalize (lg_sl ([.ref h0]) ++ List.replicate (1 - (lg_sl ([.ref h0])).length) Slot.unset).toArray = ls at hl ⊢
  have hl : lv_has ls 1 [(0, .ref h0)] := hl
  refine lv_aload_n hx hb d_Mo_pages_0 rfl (lv_at hl 0 rfl) ?_
  refine lv_iconst (v := 0) hx hb d_Mo_pages_1 (by decide) ?_
  refine va_put (D := (dC, dI)) (ci := 11) (v := .int 0) (ty := .int) (C := R_Mo) (T := F_Mo) (N := 11) hx hb hts i_Mo_pages t_Mo t_Mo_ok n_Mo hown hK hP hD hS 0 rfl rfl 0 (by decide) (hts (.fieldLink R_Mo 35 "HomeSystemModel" "thrown" "I") (List.mem_cons_of_mem _ (List.mem_append_left _ (List.mem_of_getElem? (i := 0) rfl)))) (fun _ h9 => h9) rfl (by decide +kernel) rfl rfl (Nat.le_of_ble_eq_true rfl) d_Mo_pages_2 (fun H locs hP hD hS => ?_)
  have hP : va_P (dC, dI) classes [(h0, .inr (11, [.int 0, f1, .int f2, .int f3, f4, f5, f6, .int f7, .int f8, .int f9, .int f10]))] H := hP
  have hD : va_D A [(h0, .inr (11, [.int 0, f1, .int f2, .int f3, f4, f5, f6, .int f7, .int f8, .int f9, .int f10]))] := hD
  refine lv_iconst (v := 0) hx hb d_Mo_pages_5 (by decide) ?_
  exact W.iret (v := 0) hx hb hr (fun t ht hW => ⟨⟨0, (0), rfl, ⟨rfl, ⟨trivial, rfl⟩⟩, by rw [ht]; exact hP, va_K.moved hW.alike hK, hAe.symm ▸ hD⟩, hS.F ht⟩) hS.2.2 d_Mo_pages_6
abbrev b_Mo_wrong : ByteArray := prog_14_method_40_code
def y_Mo_wrong : MethodName := ⟨R_Mo, "wrong", "()I"⟩
def w_Mo_wrong : List Cond := .code y_Mo_wrong b_Mo_wrong 1 (some .int) :: ([.fieldLink R_Mo 35 "HomeSystemModel" "thrown" "I"] ++ w_Mo)
theorem i_Mo_wrong : ∀ w ∈ w_Mo, w ∈ w_Mo_wrong := fun _ h => List.mem_cons_of_mem _ (List.mem_append_right _ h)
theorem d_Mo_wrong_0 : decode b_Mo_wrong 0 = .ok (.aload_n 0, 1) := by decide +kernel
theorem d_Mo_wrong_1 : decode b_Mo_wrong 1 = .ok (.iconst 0, 1) := by decide +kernel
theorem d_Mo_wrong_2 : decode b_Mo_wrong 2 = .ok (.putfield 35, 3) := by decide +kernel
theorem d_Mo_wrong_5 : decode b_Mo_wrong 5 = .ok (.iconst 0, 1) := by decide +kernel
theorem d_Mo_wrong_6 : decode b_Mo_wrong 6 = .ok (.ireturn, 1) := by decide +kernel
set_option maxHeartbeats 4000000 in
set_option maxRecDepth 100000 in
theorem c_Mo_wrong (l : Launch) (dC : Nat → ClassId) (dI : Nat → Nat → Nat) (h0 sz : Nat) (f0 : Int32) (f1 : Value) (f2 : Int32) (f3 : Int32) (f4 : Value) (f5 : Value) (f6 : Value) (f7 : Int32) (f8 : Int32) (f9 : Int32) (f10 : Int32)  : Met l y_Mo_wrong w_Mo_wrong ({ frames := 0, cells := 0, slots := 0, locals := 0 }) (va_Pc [.ref h0] (fun U => U.heap.size = sz ∧ va_P (dC, dI) classes [(h0, .inr (11, [.int f0, f1, .int f2, .int f3, f4, f5, f6, .int f7, .int f8, .int f9, .int f10]))] U.heap ∧ va_K (dC, dI) classes [] U ∧ va_D (fun _ => True) [(h0, .inr (11, [.int f0, f1, .int f2, .int f3, f4, f5, f6, .int f7, .int f8, .int f9, .int f10]))])) (va_Qi (fun (r : Int32) (u : Int32) => match u with | (u0) => r = 0 ∧ True ∧ u0 = 0) (fun (u : Int32) (t : State) => match u with | (u0) => va_P (dC, dI) classes [(h0, .inr (11, [.int u0, f1, .int f2, .int f3, f4, f5, f6, .int f7, .int f8, .int f9, .int f10]))] t.heap ∧ va_K (dC, dI) classes [] t ∧ va_D (va_A [(h0, .inr (11, [.int f0, f1, .int f2, .int f3, f4, f5, f6, .int f7, .int f8, .int f9, .int f10]))] sz) [(h0, .inr (11, [.int u0, f1, .int f2, .int f3, f4, f5, f6, .int f7, .int f8, .int f9, .int f10]))]) (va_A [(h0, .inr (11, [.int f0, f1, .int f2, .int f3, f4, f5, f6, .int f7, .int f8, .int f9, .int f10]))] sz)) 0 0 (va_A [(h0, .inr (11, [.int f0, f1, .int f2, .int f3, f4, f5, f6, .int f7, .int f8, .int f9, .int f10]))] sz) := by
  refine Met.ofW (cc := b_Mo_wrong) (maxL := 1) (ret := (some .int)) (by decide) rfl ?_
  intro p e s m args below meth c s₁ B hml hv
  obtain ⟨rfl, hsz, hP, hK, hD0⟩ := hv
  have hx := B.exec
  have hb := B.bytes
  have hr := B.returns
  have hts := atoms_spec (ws := w_Mo_wrong) B.pre
  have hown : s.vm.findClass R_Mo = some m.cls := findClass_of_methodNamed B.named
  have hlocks := B.notSynchronized
  subst hsz
  have hD := hD0.self (sz := s.heap.size)
  generalize hAe : va_A [(h0, .inr (11, [.int f0, f1, .int f2, .int f3, f4, f5, f6, .int f7, .int f8, .int f9, .int f10]))] s.heap.size = A at hD ⊢
  have hS : va_S A s.heap s.heap [] := va_S.rf
  have hl := lv_entry ([.ref h0]) (n := 1) (Nat.le_of_ble_eq_true rfl)
  rw [lg_entry_eq]
  generalize (lg_sl ([.ref h0]) ++ List.replicate (1 - (lg_sl ([.ref h0])).length) Slot.unset).toArray = ls at hl ⊢
  have hl : lv_has ls 1 [(0, .ref h0)] := hl
  refine lv_aload_n hx hb d_Mo_wrong_0 rfl (lv_at hl 0 rfl) ?_
  refine lv_iconst (v := 0) hx hb d_Mo_wrong_1 (by decide) ?_
  refine va_put (D := (dC, dI)) (ci := 11) (v := .int 0) (ty := .int) (C := R_Mo) (T := F_Mo) (N := 11) hx hb hts i_Mo_wrong t_Mo t_Mo_ok n_Mo hown hK hP hD hS 0 rfl rfl 0 (by decide) (hts (.fieldLink R_Mo 35 "HomeSystemModel" "thrown" "I") (List.mem_cons_of_mem _ (List.mem_append_left _ (List.mem_of_getElem? (i := 0) rfl)))) (fun _ h9 => h9) rfl (by decide +kernel) rfl rfl (Nat.le_of_ble_eq_true rfl) d_Mo_wrong_2 (fun H locs hP hD hS => ?_)
  have hP : va_P (dC, dI) classes [(h0, .inr (11, [.int 0, f1, .int f2, .int f3, f4, f5, f6, .int f7, .int f8, .int f9, .int f10]))] H := hP
  have hD : va_D A [(h0, .inr (11, [.int 0, f1, .int f2, .int f3, f4, f5, f6, .int f7, .int f8, .int f9, .int f10]))] := hD
  refine lv_iconst (v := 0) hx hb d_Mo_wrong_5 (by decide) ?_
  exact W.iret (v := 0) hx hb hr (fun t ht hW => ⟨⟨0, (0), rfl, ⟨rfl, ⟨trivial, rfl⟩⟩, by rw [ht]; exact hP, va_K.moved hW.alike hK, hAe.symm ▸ hD⟩, hS.F ht⟩) hS.2.2 d_Mo_wrong_6
abbrev b_Mpr_end : ByteArray := prog_15_method_8_code
def y_Mpr_end : MethodName := ⟨R_Mpr, "end", "(II)V"⟩
def w_Mpr_end : List Cond := .code y_Mpr_end b_Mpr_end 3 none :: ([.fieldLink R_Mpr 48 "HomeSystemModel$Process" "outcome" "I", .fieldLink R_Mpr 56 "HomeSystemModel$Process" "value" "I"] ++ w_Mpr)
theorem i_Mpr_end : ∀ w ∈ w_Mpr, w ∈ w_Mpr_end := fun _ h => List.mem_cons_of_mem _ (List.mem_append_right _ h)
theorem d_Mpr_end_0 : decode b_Mpr_end 0 = .ok (.aload_n 0, 1) := by decide +kernel
theorem d_Mpr_end_1 : decode b_Mpr_end 1 = .ok (.iload_n 1, 1) := by decide +kernel
theorem d_Mpr_end_2 : decode b_Mpr_end 2 = .ok (.putfield 48, 3) := by decide +kernel
theorem d_Mpr_end_5 : decode b_Mpr_end 5 = .ok (.aload_n 0, 1) := by decide +kernel
theorem d_Mpr_end_6 : decode b_Mpr_end 6 = .ok (.iload_n 2, 1) := by decide +kernel
theorem d_Mpr_end_7 : decode b_Mpr_end 7 = .ok (.putfield 56, 3) := by decide +kernel
theorem d_Mpr_end_10 : decode b_Mpr_end 10 = .ok (.return_, 1) := by decide +kernel
set_option maxHeartbeats 4000000 in
set_option maxRecDepth 100000 in
theorem c_Mpr_end (l : Launch) (dC : Nat → ClassId) (dI : Nat → Nat → Nat) (h0 sz : Nat) (f0 : Value) (f1 : Int32) (f2 : Int32) (f3 : Int32) (f4 : Int32) (f5 : Int32) (f6 : Int32) (f7 : Int32) (f8 : Value) (f9 : Value) (f10 : Int32) (f11 : Int32) (f12 : Int32) (f13 : Int32) (f14 : Int32) (f15 : Value) (f16 : Value) (f17 : Value) (f18 : Value) (f19 : Value) (f20 : Value) (f21 : Int32) (f22 : Value) (f23 : Int32) (f24 : Int32) (f25 : Value) (p0 : Int32) (p1 : Int32) : Met l y_Mpr_end w_Mpr_end ({ frames := 0, cells := 0, slots := 0, locals := 0 }) (va_Pc [.ref h0, .int p0, .int p1] (fun U => U.heap.size = sz ∧ va_P (dC, dI) classes [(h0, .inr (13, [f0, .int f1, .int f2, .int f3, .int f4, .int f5, .int f6, .int f7, f8, f9, .int f10, .int f11, .int f12, .int f13, .int f14, f15, f16, f17, f18, f19, f20, .int f21, f22, .int f23, .int f24, f25]))] U.heap ∧ va_K (dC, dI) classes [] U ∧ va_D (fun _ => True) [(h0, .inr (13, [f0, .int f1, .int f2, .int f3, .int f4, .int f5, .int f6, .int f7, f8, f9, .int f10, .int f11, .int f12, .int f13, .int f14, f15, f16, f17, f18, f19, f20, .int f21, f22, .int f23, .int f24, f25]))])) (va_Qv (fun (u : Int32 × Int32) => match u with | (u2, u3) => True ∧ u2 = p0 ∧ u3 = p1) (fun (u : Int32 × Int32) (t : State) => match u with | (u2, u3) => va_P (dC, dI) classes [(h0, .inr (13, [f0, .int f1, .int u2, .int u3, .int f4, .int f5, .int f6, .int f7, f8, f9, .int f10, .int f11, .int f12, .int f13, .int f14, f15, f16, f17, f18, f19, f20, .int f21, f22, .int f23, .int f24, f25]))] t.heap ∧ va_K (dC, dI) classes [] t ∧ va_D (va_A [(h0, .inr (13, [f0, .int f1, .int f2, .int f3, .int f4, .int f5, .int f6, .int f7, f8, f9, .int f10, .int f11, .int f12, .int f13, .int f14, f15, f16, f17, f18, f19, f20, .int f21, f22, .int f23, .int f24, f25]))] sz) [(h0, .inr (13, [f0, .int f1, .int u2, .int u3, .int f4, .int f5, .int f6, .int f7, f8, f9, .int f10, .int f11, .int f12, .int f13, .int f14, f15, f16, f17, f18, f19, f20, .int f21, f22, .int f23, .int f24, f25]))]) (va_A [(h0, .inr (13, [f0, .int f1, .int f2, .int f3, .int f4, .int f5, .int f6, .int f7, f8, f9, .int f10, .int f11, .int f12, .int f13, .int f14, f15, f16, f17, f18, f19, f20, .int f21, f22, .int f23, .int f24, f25]))] sz)) 0 0 (va_A [(h0, .inr (13, [f0, .int f1, .int f2, .int f3, .int f4, .int f5, .int f6, .int f7, f8, f9, .int f10, .int f11, .int f12, .int f13, .int f14, f15, f16, f17, f18, f19, f20, .int f21, f22, .int f23, .int f24, f25]))] sz) := by
  refine Met.ofW (cc := b_Mpr_end) (maxL := 3) (ret := none) (by decide) rfl ?_
  intro p e s m args below meth c s₁ B hml hv
  obtain ⟨rfl, hsz, hP, hK, hD0⟩ := hv
  have hx := B.exec
  have hb := B.bytes
  have hr := B.returns
  have hts := atoms_spec (ws := w_Mpr_end) B.pre
  have hown : s.vm.findClass R_Mpr = some m.cls := findClass_of_methodNamed B.named
  have hlocks := B.notSynchronized
  subst hsz
  have hD := hD0.self (sz := s.heap.size)
  generalize hAe : va_A [(h0, .inr (13, [f0, .int f1, .int f2, .int f3, .int f4, .int f5, .int f6, .int f7, f8, f9, .int f10, .int f11, .int f12, .int f13, .int f14, f15, f16, f17, f18, f19, f20, .int f21, f22, .int f23, .int f24, f25]))] s.heap.size = A at hD ⊢
  have hS : va_S A s.heap s.heap [] := va_S.rf
  have hl := lv_entry ([.ref h0, .int p0, .int p1]) (n := 3) (Nat.le_of_ble_eq_true rfl)
  rw [lg_entry_eq]
  generalize (lg_sl ([.ref h0, .int p0, .int p1]) ++ List.replicate (3 - (lg_sl ([.ref h0, .int p0, .int p1])).length) Slot.unset).toArray = ls at hl ⊢
  have hl : lv_has ls 3 [(0, .ref h0), (1, .int p0), (2, .int p1)] := hl
  refine lv_aload_n hx hb d_Mpr_end_0 rfl (lv_at hl 0 rfl) ?_
  refine lv_iload_n hx hb d_Mpr_end_1 rfl (lv_at hl 1 rfl) ?_
  refine va_put (D := (dC, dI)) (ci := 13) (v := .int p0) (ty := .int) (C := R_Mpr) (T := F_Mpr) (N := 26) hx hb hts i_Mpr_end t_Mpr t_Mpr_ok n_Mpr hown hK hP hD hS 0 rfl rfl 2 (by decide) (hts (.fieldLink R_Mpr 48 "HomeSystemModel$Process" "outcome" "I") (List.mem_cons_of_mem _ (List.mem_append_left _ (List.mem_of_getElem? (i := 0) rfl)))) (fun _ h9 => h9) rfl (by decide +kernel) rfl rfl (Nat.le_of_ble_eq_true rfl) d_Mpr_end_2 (fun H locs hP hD hS => ?_)
  have hP : va_P (dC, dI) classes [(h0, .inr (13, [f0, .int f1, .int p0, .int f3, .int f4, .int f5, .int f6, .int f7, f8, f9, .int f10, .int f11, .int f12, .int f13, .int f14, f15, f16, f17, f18, f19, f20, .int f21, f22, .int f23, .int f24, f25]))] H := hP
  have hD : va_D A [(h0, .inr (13, [f0, .int f1, .int p0, .int f3, .int f4, .int f5, .int f6, .int f7, f8, f9, .int f10, .int f11, .int f12, .int f13, .int f14, f15, f16, f17, f18, f19, f20, .int f21, f22, .int f23, .int f24, f25]))] := hD
  refine lv_aload_n hx hb d_Mpr_end_5 rfl (lv_at hl 0 rfl) ?_
  refine lv_iload_n hx hb d_Mpr_end_6 rfl (lv_at hl 2 rfl) ?_
  refine va_put (D := (dC, dI)) (ci := 13) (v := .int p1) (ty := .int) (C := R_Mpr) (T := F_Mpr) (N := 26) hx hb hts i_Mpr_end t_Mpr t_Mpr_ok n_Mpr hown hK hP hD hS 0 rfl rfl 3 (by decide) (hts (.fieldLink R_Mpr 56 "HomeSystemModel$Process" "value" "I") (List.mem_cons_of_mem _ (List.mem_append_left _ (List.mem_of_getElem? (i := 1) rfl)))) (fun _ h9 => h9) rfl (by decide +kernel) rfl rfl (Nat.le_of_ble_eq_true rfl) d_Mpr_end_7 (fun H locs hP hD hS => ?_)
  have hP : va_P (dC, dI) classes [(h0, .inr (13, [f0, .int f1, .int p0, .int p1, .int f4, .int f5, .int f6, .int f7, f8, f9, .int f10, .int f11, .int f12, .int f13, .int f14, f15, f16, f17, f18, f19, f20, .int f21, f22, .int f23, .int f24, f25]))] H := hP
  have hD : va_D A [(h0, .inr (13, [f0, .int f1, .int p0, .int p1, .int f4, .int f5, .int f6, .int f7, f8, f9, .int f10, .int f11, .int f12, .int f13, .int f14, f15, f16, f17, f18, f19, f20, .int f21, f22, .int f23, .int f24, f25]))] := hD
  exact W.vret hx hb hr (fun t ht hW => ⟨⟨(p0, p1), rfl, ⟨trivial, rfl, rfl⟩, by rw [ht]; exact hP, va_K.moved hW.alike hK, hAe.symm ▸ hD⟩, hS.F ht⟩) hS.2.2 d_Mpr_end_10
abbrev b_Mpg_leave : ByteArray := prog_16_method_89_code
def y_Mpg_leave : MethodName := ⟨R_Mpg, "leave", "(II)V"⟩
def w_Mpg_leave : List Cond := .code y_Mpg_leave b_Mpg_leave 3 none :: ([.fieldLink R_Mpg 528 "HomeSystemModel$Program" "known" "I", .fieldLink R_Mpg 556 "HomeSystemModel$Program" "scope" "I"] ++ w_Mpg)
theorem i_Mpg_leave : ∀ w ∈ w_Mpg, w ∈ w_Mpg_leave := fun _ h => List.mem_cons_of_mem _ (List.mem_append_right _ h)
theorem d_Mpg_leave_0 : decode b_Mpg_leave 0 = .ok (.aload_n 0, 1) := by decide +kernel
theorem d_Mpg_leave_1 : decode b_Mpg_leave 1 = .ok (.iload_n 1, 1) := by decide +kernel
theorem d_Mpg_leave_2 : decode b_Mpg_leave 2 = .ok (.putfield 528, 3) := by decide +kernel
theorem d_Mpg_leave_5 : decode b_Mpg_leave 5 = .ok (.aload_n 0, 1) := by decide +kernel
theorem d_Mpg_leave_6 : decode b_Mpg_leave 6 = .ok (.iload_n 2, 1) := by decide +kernel
theorem d_Mpg_leave_7 : decode b_Mpg_leave 7 = .ok (.putfield 556, 3) := by decide +kernel
theorem d_Mpg_leave_10 : decode b_Mpg_leave 10 = .ok (.return_, 1) := by decide +kernel
set_option maxHeartbeats 4000000 in
set_option maxRecDepth 100000 in
theorem c_Mpg_leave (l : Launch) (dC : Nat → ClassId) (dI : Nat → Nat → Nat) (h0 sz : Nat) (f0 : Value) (f1 : Value) (f2 : Value) (f3 : Value) (f4 : Value) (f5 : Int32) (f6 : Int32) (f7 : Value) (f8 : Value) (f9 : Value) (f10 : Value) (f11 : Int32) (f12 : Int32) (f13 : Int32) (f14 : Value) (f15 : Value) (f16 : Value) (f17 : Value) (f18 : Value) (f19 : Value) (f20 : Value) (f21 : Value) (f22 : Value) (f23 : Value) (f24 : Int32) (f25 : Int32) (f26 : Int32) (f27 : Value) (f28 : Value) (f29 : Value) (f30 : Int32) (f31 : Int32) (f32 : Int32) (f33 : Int32) (f34 : Value) (f35 : Value) (f36 : Value) (f37 : Int32) (f38 : Int32) (f39 : Value) (f40 : Value) (f41 : Int32) (f42 : Int32) (f43 : Int32) (f44 : Int32) (f45 : Int32) (f46 : Int32) (f47 : Int32) (f48 : Int32) (f49 : Value) (f50 : Value) (f51 : Value) (f52 : Value) (f53 : Value) (f54 : Int32) (f55 : Int32) (f56 : Value) (f57 : Int32) (f58 : Int32) (f59 : Int32) (f60 : Int32) (f61 : Value) (f62 : Value) (f63 : Value) (f64 : Int32) (f65 : Int32) (f66 : Int32) (f67 : Value) (f68 : Int32) (p0 : Int32) (p1 : Int32) : Met l y_Mpg_leave w_Mpg_leave ({ frames := 0, cells := 0, slots := 0, locals := 0 }) (va_Pc [.ref h0, .int p0, .int p1] (fun U => U.heap.size = sz ∧ va_P (dC, dI) classes [(h0, .inr (12, [f0, f1, f2, f3, f4, .int f5, .int f6, f7, f8, f9, f10, .int f11, .int f12, .int f13, f14, f15, f16, f17, f18, f19, f20, f21, f22, f23, .int f24, .int f25, .int f26, f27, f28, f29, .int f30, .int f31, .int f32, .int f33, f34, f35, f36, .int f37, .int f38, f39, f40, .int f41, .int f42, .int f43, .int f44, .int f45, .int f46, .int f47, .int f48, f49, f50, f51, f52, f53, .int f54, .int f55, f56, .int f57, .int f58, .int f59, .int f60, f61, f62, f63, .int f64, .int f65, .int f66, f67, .int f68]))] U.heap ∧ va_K (dC, dI) classes [] U ∧ va_D (fun _ => True) [(h0, .inr (12, [f0, f1, f2, f3, f4, .int f5, .int f6, f7, f8, f9, f10, .int f11, .int f12, .int f13, f14, f15, f16, f17, f18, f19, f20, f21, f22, f23, .int f24, .int f25, .int f26, f27, f28, f29, .int f30, .int f31, .int f32, .int f33, f34, f35, f36, .int f37, .int f38, f39, f40, .int f41, .int f42, .int f43, .int f44, .int f45, .int f46, .int f47, .int f48, f49, f50, f51, f52, f53, .int f54, .int f55, f56, .int f57, .int f58, .int f59, .int f60, f61, f62, f63, .int f64, .int f65, .int f66, f67, .int f68]))])) (va_Qv (fun (u : Int32 × Int32) => match u with | (u33, u37) => True ∧ u33 = p0 ∧ u37 = p1) (fun (u : Int32 × Int32) (t : State) => match u with | (u33, u37) => va_P (dC, dI) classes [(h0, .inr (12, [f0, f1, f2, f3, f4, .int f5, .int f6, f7, f8, f9, f10, .int f11, .int f12, .int f13, f14, f15, f16, f17, f18, f19, f20, f21, f22, f23, .int f24, .int f25, .int f26, f27, f28, f29, .int f30, .int f31, .int f32, .int u33, f34, f35, f36, .int u37, .int f38, f39, f40, .int f41, .int f42, .int f43, .int f44, .int f45, .int f46, .int f47, .int f48, f49, f50, f51, f52, f53, .int f54, .int f55, f56, .int f57, .int f58, .int f59, .int f60, f61, f62, f63, .int f64, .int f65, .int f66, f67, .int f68]))] t.heap ∧ va_K (dC, dI) classes [] t ∧ va_D (va_A [(h0, .inr (12, [f0, f1, f2, f3, f4, .int f5, .int f6, f7, f8, f9, f10, .int f11, .int f12, .int f13, f14, f15, f16, f17, f18, f19, f20, f21, f22, f23, .int f24, .int f25, .int f26, f27, f28, f29, .int f30, .int f31, .int f32, .int f33, f34, f35, f36, .int f37, .int f38, f39, f40, .int f41, .int f42, .int f43, .int f44, .int f45, .int f46, .int f47, .int f48, f49, f50, f51, f52, f53, .int f54, .int f55, f56, .int f57, .int f58, .int f59, .int f60, f61, f62, f63, .int f64, .int f65, .int f66, f67, .int f68]))] sz) [(h0, .inr (12, [f0, f1, f2, f3, f4, .int f5, .int f6, f7, f8, f9, f10, .int f11, .int f12, .int f13, f14, f15, f16, f17, f18, f19, f20, f21, f22, f23, .int f24, .int f25, .int f26, f27, f28, f29, .int f30, .int f31, .int f32, .int u33, f34, f35, f36, .int u37, .int f38, f39, f40, .int f41, .int f42, .int f43, .int f44, .int f45, .int f46, .int f47, .int f48, f49, f50, f51, f52, f53, .int f54, .int f55, f56, .int f57, .int f58, .int f59, .int f60, f61, f62, f63, .int f64, .int f65, .int f66, f67, .int f68]))]) (va_A [(h0, .inr (12, [f0, f1, f2, f3, f4, .int f5, .int f6, f7, f8, f9, f10, .int f11, .int f12, .int f13, f14, f15, f16, f17, f18, f19, f20, f21, f22, f23, .int f24, .int f25, .int f26, f27, f28, f29, .int f30, .int f31, .int f32, .int f33, f34, f35, f36, .int f37, .int f38, f39, f40, .int f41, .int f42, .int f43, .int f44, .int f45, .int f46, .int f47, .int f48, f49, f50, f51, f52, f53, .int f54, .int f55, f56, .int f57, .int f58, .int f59, .int f60, f61, f62, f63, .int f64, .int f65, .int f66, f67, .int f68]))] sz)) 0 0 (va_A [(h0, .inr (12, [f0, f1, f2, f3, f4, .int f5, .int f6, f7, f8, f9, f10, .int f11, .int f12, .int f13, f14, f15, f16, f17, f18, f19, f20, f21, f22, f23, .int f24, .int f25, .int f26, f27, f28, f29, .int f30, .int f31, .int f32, .int f33, f34, f35, f36, .int f37, .int f38, f39, f40, .int f41, .int f42, .int f43, .int f44, .int f45, .int f46, .int f47, .int f48, f49, f50, f51, f52, f53, .int f54, .int f55, f56, .int f57, .int f58, .int f59, .int f60, f61, f62, f63, .int f64, .int f65, .int f66, f67, .int f68]))] sz) := by
  refine Met.ofW (cc := b_Mpg_leave) (maxL := 3) (ret := none) (by decide) rfl ?_
  intro p e s m args below meth c s₁ B hml hv
  obtain ⟨rfl, hsz, hP, hK, hD0⟩ := hv
  have hx := B.exec
  have hb := B.bytes
  have hr := B.returns
  have hts := atoms_spec (ws := w_Mpg_leave) B.pre
  have hown : s.vm.findClass R_Mpg = some m.cls := findClass_of_methodNamed B.named
  have hlocks := B.notSynchronized
  subst hsz
  have hD := hD0.self (sz := s.heap.size)
  generalize hAe : va_A [(h0, .inr (12, [f0, f1, f2, f3, f4, .int f5, .int f6, f7, f8, f9, f10, .int f11, .int f12, .int f13, f14, f15, f16, f17, f18, f19, f20, f21, f22, f23, .int f24, .int f25, .int f26, f27, f28, f29, .int f30, .int f31, .int f32, .int f33, f34, f35, f36, .int f37, .int f38, f39, f40, .int f41, .int f42, .int f43, .int f44, .int f45, .int f46, .int f47, .int f48, f49, f50, f51, f52, f53, .int f54, .int f55, f56, .int f57, .int f58, .int f59, .int f60, f61, f62, f63, .int f64, .int f65, .int f66, f67, .int f68]))] s.heap.size = A at hD ⊢
  have hS : va_S A s.heap s.heap [] := va_S.rf
  have hl := lv_entry ([.ref h0, .int p0, .int p1]) (n := 3) (Nat.le_of_ble_eq_true rfl)
  rw [lg_entry_eq]
  generalize (lg_sl ([.ref h0, .int p0, .int p1]) ++ List.replicate (3 - (lg_sl ([.ref h0, .int p0, .int p1])).length) Slot.unset).toArray = ls at hl ⊢
  have hl : lv_has ls 3 [(0, .ref h0), (1, .int p0), (2, .int p1)] := hl
  refine lv_aload_n hx hb d_Mpg_leave_0 rfl (lv_at hl 0 rfl) ?_
  refine lv_iload_n hx hb d_Mpg_leave_1 rfl (lv_at hl 1 rfl) ?_
  refine va_put (D := (dC, dI)) (ci := 12) (v := .int p0) (ty := .int) (C := R_Mpg) (T := F_Mpg) (N := 69) hx hb hts i_Mpg_leave t_Mpg t_Mpg_ok n_Mpg hown hK hP hD hS 0 rfl rfl 33 (by decide) (hts (.fieldLink R_Mpg 528 "HomeSystemModel$Program" "known" "I") (List.mem_cons_of_mem _ (List.mem_append_left _ (List.mem_of_getElem? (i := 0) rfl)))) (fun _ h9 => h9) rfl (by decide +kernel) rfl rfl (Nat.le_of_ble_eq_true rfl) d_Mpg_leave_2 (fun H locs hP hD hS => ?_)
  have hP : va_P (dC, dI) classes [(h0, .inr (12, [f0, f1, f2, f3, f4, .int f5, .int f6, f7, f8, f9, f10, .int f11, .int f12, .int f13, f14, f15, f16, f17, f18, f19, f20, f21, f22, f23, .int f24, .int f25, .int f26, f27, f28, f29, .int f30, .int f31, .int f32, .int p0, f34, f35, f36, .int f37, .int f38, f39, f40, .int f41, .int f42, .int f43, .int f44, .int f45, .int f46, .int f47, .int f48, f49, f50, f51, f52, f53, .int f54, .int f55, f56, .int f57, .int f58, .int f59, .int f60, f61, f62, f63, .int f64, .int f65, .int f66, f67, .int f68]))] H := hP
  have hD : va_D A [(h0, .inr (12, [f0, f1, f2, f3, f4, .int f5, .int f6, f7, f8, f9, f10, .int f11, .int f12, .int f13, f14, f15, f16, f17, f18, f19, f20, f21, f22, f23, .int f24, .int f25, .int f26, f27, f28, f29, .int f30, .int f31, .int f32, .int p0, f34, f35, f36, .int f37, .int f38, f39, f40, .int f41, .int f42, .int f43, .int f44, .int f45, .int f46, .int f47, .int f48, f49, f50, f51, f52, f53, .int f54, .int f55, f56, .int f57, .int f58, .int f59, .int f60, f61, f62, f63, .int f64, .int f65, .int f66, f67, .int f68]))] := hD
  refine lv_aload_n hx hb d_Mpg_leave_5 rfl (lv_at hl 0 rfl) ?_
  refine lv_iload_n hx hb d_Mpg_leave_6 rfl (lv_at hl 2 rfl) ?_
  refine va_put (D := (dC, dI)) (ci := 12) (v := .int p1) (ty := .int) (C := R_Mpg) (T := F_Mpg) (N := 69) hx hb hts i_Mpg_leave t_Mpg t_Mpg_ok n_Mpg hown hK hP hD hS 0 rfl rfl 37 (by decide) (hts (.fieldLink R_Mpg 556 "HomeSystemModel$Program" "scope" "I") (List.mem_cons_of_mem _ (List.mem_append_left _ (List.mem_of_getElem? (i := 1) rfl)))) (fun _ h9 => h9) rfl (by decide +kernel) rfl rfl (Nat.le_of_ble_eq_true rfl) d_Mpg_leave_7 (fun H locs hP hD hS => ?_)
  have hP : va_P (dC, dI) classes [(h0, .inr (12, [f0, f1, f2, f3, f4, .int f5, .int f6, f7, f8, f9, f10, .int f11, .int f12, .int f13, f14, f15, f16, f17, f18, f19, f20, f21, f22, f23, .int f24, .int f25, .int f26, f27, f28, f29, .int f30, .int f31, .int f32, .int p0, f34, f35, f36, .int p1, .int f38, f39, f40, .int f41, .int f42, .int f43, .int f44, .int f45, .int f46, .int f47, .int f48, f49, f50, f51, f52, f53, .int f54, .int f55, f56, .int f57, .int f58, .int f59, .int f60, f61, f62, f63, .int f64, .int f65, .int f66, f67, .int f68]))] H := hP
  have hD : va_D A [(h0, .inr (12, [f0, f1, f2, f3, f4, .int f5, .int f6, f7, f8, f9, f10, .int f11, .int f12, .int f13, f14, f15, f16, f17, f18, f19, f20, f21, f22, f23, .int f24, .int f25, .int f26, f27, f28, f29, .int f30, .int f31, .int f32, .int p0, f34, f35, f36, .int p1, .int f38, f39, f40, .int f41, .int f42, .int f43, .int f44, .int f45, .int f46, .int f47, .int f48, f49, f50, f51, f52, f53, .int f54, .int f55, f56, .int f57, .int f58, .int f59, .int f60, f61, f62, f63, .int f64, .int f65, .int f66, f67, .int f68]))] := hD
  exact W.vret hx hb hr (fun t ht hW => ⟨⟨(p0, p1), rfl, ⟨trivial, rfl, rfl⟩, by rw [ht]; exact hP, va_K.moved hW.alike hK, hAe.symm ▸ hD⟩, hS.F ht⟩) hS.2.2 d_Mpg_leave_10
