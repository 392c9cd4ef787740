theorem oz_a3e4319bad {a0 : Int} {n1 : Nat} (h0 : a0 = (n1 : Int)) : (0 : Int) ≤ a0 := by omega
theorem m6_138 : Cond.fieldLink "HomeSystem$AnyProcess" 22 "HomeSystem$AnyProcess" "outcome" "I" ∈ AL := AL_6 (List.mem_of_getElem? (i := 138) rfl) rfl
theorem m6_145 : Cond.fieldLink "HomeSystem$AnyProcess" 25 "HomeSystem$AnyProcess" "given" "I" ∈ AL := AL_6 (List.mem_of_getElem? (i := 145) rfl) rfl
theorem m6_150 : Cond.fieldLink "HomeSystem$AnyProcess" 31 "HomeSystem$AnyProcess" "calling" "Z" ∈ AL := AL_6 (List.mem_of_getElem? (i := 150) rfl) rfl
theorem m6_136 : Cond.fieldLink "HomeSystem$AnyProcess" 19 "HomeSystem$AnyProcess" "written" "I" ∈ AL := AL_6 (List.mem_of_getElem? (i := 136) rfl) rfl
theorem m6_134 : Cond.fieldLink "HomeSystem$AnyProcess" 9 "HomeSystem$AnyProcess" "numbers" "[I" ∈ AL := AL_6 (List.mem_of_getElem? (i := 134) rfl) rfl
theorem m6_148 : Cond.fieldLink "HomeSystem$AnyProcess" 28 "HomeSystem$AnyProcess" "children" "I" ∈ AL := AL_6 (List.mem_of_getElem? (i := 148) rfl) rfl
theorem m7_43 : Cond.constant "HomeSystem$RawProcess" 37 (4194304) ∈ AL := AL_7 (List.mem_of_getElem? (i := 43) rfl) rfl
theorem m8_107 : Cond.constant "HomeSystem$RawProcess" 92 (4198400) ∈ AL := AL_8 (List.mem_of_getElem? (i := 107) rfl) rfl
theorem m8_101 : Cond.constant "HomeSystem$RawProcess" 93 (5242880) ∈ AL := AL_8 (List.mem_of_getElem? (i := 101) rfl) rfl
theorem m8_103 : Cond.constant "HomeSystem$RawProcess" 95 (8257536) ∈ AL := AL_8 (List.mem_of_getElem? (i := 103) rfl) rfl
theorem m7_42 : Cond.constant "HomeSystem$RawProcess" 28 (8388608) ∈ AL := AL_7 (List.mem_of_getElem? (i := 42) rfl) rfl
theorem m8_102 : Cond.constant "HomeSystem$RawProcess" 94 (5259264) ∈ AL := AL_8 (List.mem_of_getElem? (i := 102) rfl) rfl
theorem m6_124 : Cond.fieldLink "HomeSystem$RawProcess" 9 "HomeSystem$RawProcess" "registers" "[I" ∈ AL := AL_6 (List.mem_of_getElem? (i := 124) rfl) rfl
theorem m8_204 : Cond.constantLong "HomeSystem$RawProcess" 144 (4294967295 : Int64) ∈ AL := AL_8 (List.mem_of_getElem? (i := 204) rfl) rfl
theorem m8_185 : Cond.constant "HomeSystem$RawProcess" 139 (1044480) ∈ AL := AL_8 (List.mem_of_getElem? (i := 185) rfl) rfl
theorem m8_201 : Cond.methodLink "HomeSystem$RawProcess" 140 ⟨"HomeSystem$RawProcess", "below", "(II)Z"⟩ ∈ AL := AL_8 (List.mem_of_getElem? (i := 201) rfl) rfl
theorem m8_203 : Cond.code ⟨"HomeSystem$RawProcess", "below", "(II)Z"⟩ prog_8_method_19_code 2 (Option.some FieldType.boolean) ∈ AL := AL_8 (List.mem_of_getElem? (i := 203) rfl) rfl
theorem m1_34 : Cond.initialized "HomeSystem$RawProcess" ∈ AL := AL_1 (List.mem_of_getElem? (i := 34) rfl) rfl
theorem m8_202 : Cond.static ⟨"HomeSystem$RawProcess", "below", "(II)Z"⟩ ∈ AL := AL_8 (List.mem_of_getElem? (i := 202) rfl) rfl
theorem i_shr (x y : Int32) {k : Nat} {d : Int} (hs : ((y &&& 31).toBitVec.smod 32).toNat = k) (hd : (2 : Int) ^ k = d) : (x >>> (y &&& 31)).toInt = x.toInt / d := by
  rw [pk_shr _ _ k hs, Int.shiftRight_eq_div_pow, ← hd]
  rfl
theorem i_mulc (x y : Int32) {d : Int} (hx : x.toInt = d) : -2147483648 ≤ d * y.toInt → d * y.toInt < 2147483648 → (x * y).toInt = d * y.toInt := by
  intro h1 h2
  rw [Int32.toInt_mul, hx, Int.bmod_def]
  split <;> omega
theorem i_shl (x y : Int32) {k : Nat} {d : Int} (hs : ((y &&& 31).toBitVec.smod 32).toNat = k) (hd : (2 : Int) ^ k = d) : 0 ≤ x.toInt → x.toInt * d < 2147483648 → (x <<< (y &&& 31)).toInt = x.toInt * d := by
  intro h1 h2
  obtain ⟨n, hn⟩ : ∃ n : Nat, x.toInt = (n : Int) := ⟨x.toInt.toNat, by omega⟩
  have hlt : n < 2 ^ 31 := by have := Int32.toInt_lt x; omega
  have hx : x = nI n := i_eq.mpr (by rw [nI_toInt hlt]; exact hn)
  have hp : ((n * 2 ^ k : Nat) : Int) = (n : Int) * d := by rw [← hd]; push_cast; rfl
  have hb : n * 2 ^ k < 2 ^ 31 := by
    have : ((n * 2 ^ k : Nat) : Int) < 2147483648 := by rw [hp, ← hn]; exact h2
    omega
  rw [hx, pk_shlN (y &&& 31) k hs (by omega), nI_toInt hb, nI_toInt hlt, hp]
theorem i_max (x y : Int32) {z : Int32} (e : z = if x < y then y else x) : x.toInt ≤ z.toInt ∧ y.toInt ≤ z.toInt ∧ (z.toInt = x.toInt ∨ z.toInt = y.toInt) := by
  rw [e]
  by_cases h : x < y
  · rw [if_pos h]; have := i_lt.mp h; omega
  · rw [if_neg h]; have := mt i_lt.mpr h; omega
theorem i_min (x y : Int32) {z : Int32} (e : z = if y < x then y else x) : z.toInt ≤ x.toInt ∧ z.toInt ≤ y.toInt ∧ (z.toInt = x.toInt ∨ z.toInt = y.toInt) := by
  rw [e]
  by_cases h : y < x
  · rw [if_pos h]; have := i_lt.mp h; omega
  · rw [if_neg h]; have := mt i_lt.mpr h; omega
def wd_Raw (cs : Nat → ClassId) (h : Nat) (r : Nat → Nat) (o : Nat → Option Nat) (f : Nat → Int32) (a : Nat → Nat → Int32) (g : Nat → Nat → Option Nat) : va_W := [(h, .inr (9, [.ref (r 0), .ref (r 1), va_rf (o 2), .int (f 3), va_rf (o 4), .int (f 5), .int (f 6), .int (f 7), .int (f 8), .ref (r 9), .int (f 10), .int (f 11), .int (f 12), .int (f 13), .int (f 14), .int (f 15), .int (f 16), .int (f 17)])), (r 0, .inl (cs 0, 32, .inl (a 0))), (r 1, .inl (cs 0, 36, .inl (a 1))), (r 9, .inl (cs 0, 256, .inl (a 9)))]
def wd_Txp (cs : Nat → ClassId) (h : Nat) (r : Nat → Nat) (o : Nat → Option Nat) (f : Nat → Int32) (a : Nat → Nat → Int32) (g : Nat → Nat → Option Nat) : va_W := [(h, .inr (10, [.ref (r 0), .ref (r 1), .ref (r 2), va_rf (o 3), .int (f 4), .int (f 5), .int (f 6), .int (f 7), .int (f 8), .int (f 9), .int (f 10), .int (f 11), .int (f 12), .int (f 13), .int (f 14), .int (f 15), .ref (r 16), .int (f 17), .int (f 18), .int (f 19), .int (f 20), .int (f 21), .int (f 22), .int (f 23), .int (f 24)])), (r 0, .inl (cs 0, 8704, .inl (a 0))), (r 1, .inl (cs 0, 516, .inl (a 1))), (r 2, .inl (cs 0, 303, .inl (a 2))), (r 16, .inl (cs 0, 256, .inl (a 16)))]
abbrev b_Arrays_fill : ByteArray := prog_40_method_103_code
def y_Arrays_fill : MethodName := ⟨"java/util/Arrays", "fill", "([II)V"⟩
theorem d_Arrays_fill_0 : decode b_Arrays_fill 0 = .ok (.iconst 0, 1) := by decide +kernel
theorem d_Arrays_fill_1 : decode b_Arrays_fill 1 = .ok (.istore_n 2, 1) := by decide +kernel
theorem d_Arrays_fill_2 : decode b_Arrays_fill 2 = .ok (.aload_n 0, 1) := by decide +kernel
theorem d_Arrays_fill_3 : decode b_Arrays_fill 3 = .ok (.arraylength, 1) := by decide +kernel
theorem d_Arrays_fill_4 : decode b_Arrays_fill 4 = .ok (.istore_n 3, 1) := by decide +kernel
theorem d_Arrays_fill_5 : decode b_Arrays_fill 5 = .ok (.iload_n 2, 1) := by decide +kernel
theorem d_Arrays_fill_6 : decode b_Arrays_fill 6 = .ok (.iload_n 3, 1) := by decide +kernel
theorem d_Arrays_fill_7 : decode b_Arrays_fill 7 = .ok (.if_icmp .ge 13, 3) := by decide +kernel
theorem d_Arrays_fill_10 : decode b_Arrays_fill 10 = .ok (.aload_n 0, 1) := by decide +kernel
theorem d_Arrays_fill_11 : decode b_Arrays_fill 11 = .ok (.iload_n 2, 1) := by decide +kernel
theorem d_Arrays_fill_12 : decode b_Arrays_fill 12 = .ok (.iload_n 1, 1) := by decide +kernel
theorem d_Arrays_fill_13 : decode b_Arrays_fill 13 = .ok (.iastore, 1) := by decide +kernel
theorem d_Arrays_fill_14 : decode b_Arrays_fill 14 = .ok (.iinc 2 1, 3) := by decide +kernel
theorem d_Arrays_fill_17 : decode b_Arrays_fill 17 = .ok (.goto (-12), 3) := by decide +kernel
theorem d_Arrays_fill_20 : decode b_Arrays_fill 20 = .ok (.return_, 1) := by decide +kernel
theorem q_Arrays_fill : px_y y_Arrays_fill 2 := by unfold px_y; decide +kernel
set_option maxHeartbeats 4000000 in
set_option maxRecDepth 100000 in
theorem c_Arrays_fill (l : Launch) (D : va_G) (cs : Nat → ClassId) (q : Nat) (nn : Nat) (ca : Nat → Int32) (x : Int32)  (g0 : nn ≤ 1000000) : MetV l y_Arrays_fill b_Arrays_fill 4 D cs 0 0 (0) (0) [.ref q, .int x] [[(q, .inl (cs 0, nn, .inl ca))]] (fun _ => True) (fun ps => ∃ (ca' : Nat → Int32), (ps = [[(q, .inl (cs 0, nn, .inl ca'))]])) := by
  refine px_enter (by decide) (Nat.le_of_ble_eq_true rfl) ?_
  intro p e s m below meth c A ls hAe S hr hlk hnm hA hT hX hw hl
  replace hl : lv_has ls 4 [(0, .ref q), (1, .int x)] := hl
  have lx := Int32.le_toInt x
  have ux := Int32.toInt_lt x
  have cst0 : (0 : Int32).toInt = 0 := rfl
  have hnn : (nI nn).toInt = (nn : Int) := nI_toInt (by omega)
  have J5 : ∀ (n : Nat) (ca_5 : Nat → Int32) (x5_2 x5_3 : Int32) (H : Heap) (locs : List Loc) (ls : Array Slot), (x5_3.toInt = (nn : Int)) → (0 ≤ x5_2.toInt) → (x5_2.toInt ≤ x5_3.toInt) → x5_3.toInt+1-x5_2.toInt < (n : Int) → pw D A s.heap H locs [[(q, .inl (cs 0, nn, .inl ca_5))]] → lv_has ls 4 [(0, .ref q), (1, .int x), (2, .int x5_2), (3, .int x5_3)] → W p l e { frames := 0, cells := 0, slots := 0, locals := 0 } s m [.ref q, .int x].toArray below meth c H locs 0 0 (MQ below (va_Qv (fun ps => ∃ (ca' : Nat → Int32), (ps = [[(q, .inl (cs 0, nn, .inl ca'))]])) (pc_B D (va_A ([[(q, .inl (cs 0, nn, .inl ca))]] : List va_W).flatten s.heap.size)) (va_A ([[(q, .inl (cs 0, nn, .inl ca))]] : List va_W).flatten s.heap.size)) [.ref q, .int x].toArray s 0 0 A) (F0 m 5 ls []) := by
    intro n
    induction n with
    | zero =>
      intro ca_5 x5_2 x5_3 H locs ls k5_0 k5_1 k5_2 hm hw hl
      have lx5_2 := Int32.le_toInt x5_2
      have ux5_2 := Int32.toInt_lt x5_2
      have lx5_3 := Int32.le_toInt x5_3
      have ux5_3 := Int32.toInt_lt x5_3
      exact absurd hm (by omega)
    | succ n ih =>
      intro ca_5 x5_2 x5_3 H locs ls k5_0 k5_1 k5_2 hm hw hl
      have lx5_2 := Int32.le_toInt x5_2
      have ux5_2 := Int32.toInt_lt x5_2
      have lx5_3 := Int32.le_toInt x5_3
      have ux5_3 := Int32.toInt_lt x5_3
      refine lv_iload_n S.x S.b d_Arrays_fill_5 rfl (lv_at hl 2 rfl) ?_
      refine lv_iload_n S.x S.b d_Arrays_fill_6 rfl (lv_at hl 3 rfl) ?_
      refine lv_icmp_ge (tgt := 20) S.x S.b d_Arrays_fill_7 (by decide) (fun c1 => ?_) (fun c1 => ?_)
      · have nc1 : x5_3.toInt ≤ x5_2.toInt := (i_le (x := x5_3) (y := x5_2)).mp c1
        exact px_vret S hr hlk hAe hw (Nat.le_of_ble_eq_true rfl) (Nat.le_of_ble_eq_true rfl) (⟨ca_5, rfl⟩) d_Arrays_fill_20
      · have nc1 : ¬ x5_3.toInt ≤ x5_2.toInt := mt (i_le (x := x5_3) (y := x5_2)).mpr c1
        refine lv_aload_n S.x S.b d_Arrays_fill_10 rfl (lv_at hl 0 rfl) ?_
        refine lv_iload_n S.x S.b d_Arrays_fill_11 rfl (lv_at hl 2 rfl) ?_
        refine lv_iload_n S.x S.b d_Arrays_fill_12 rfl (lv_at hl 1 rfl) ?_
        refine px_iast S hT hw 0 0 (n := nn) (f := ca_5) (x := x5_2) (y := x) rfl rfl (vp_in_iff.mpr (by constructor <;> omega)) d_Arrays_fill_13 (w' := [(q, .inl (cs 0, nn, .inl (upd ca_5 x5_2.toNatClampNeg x)))]) (ps' := [[(q, .inl (cs 0, nn, .inl (upd ca_5 x5_2.toNatClampNeg x)))]]) rfl rfl (fun H locs hw => ?_)
        obtain ⟨z2, ez2⟩ : ∃ y : Int32, y = x5_2 + 1 := ⟨_, rfl⟩
        have tz2 : z2.toInt = (x5_2.toInt + 1 + 2147483648) % 4294967296 - 2147483648 := by rw [ez2]; exact i_add x5_2 1
        have lz2 := Int32.le_toInt z2
        have uz2 := Int32.toInt_lt z2
        refine lv_iinc (v := z2) (lv' := [(2, .int z2), (0, .ref q), (1, .int x), (3, .int x5_3)]) S.x S.b d_Arrays_fill_14 hl (k := 2) rfl (by rw [ez2]; rfl) (by decide) rfl (fun ls hl => ?_)
        refine lv_goto (tgt := 5) S.x S.b d_Arrays_fill_17 (by decide) ?_
        exact ih (upd ca_5 x5_2.toNatClampNeg x) z2 x5_3 _ _ ls (show x5_3.toInt = (nn : Int) from by first | exact k5_0 | omega) (show 0 ≤ z2.toInt from by first | with_reducible rfl | with_reducible assumption | omega) (show z2.toInt ≤ x5_3.toInt from by first | with_reducible rfl | with_reducible assumption | omega) (show x5_3.toInt+1-z2.toInt < (n : Int) from by first | with_reducible rfl | with_reducible assumption | omega) hw (lv_sub hl [1, 2, 0, 3] rfl)
  refine lv_iconst (v := 0) S.x S.b d_Arrays_fill_0 (by decide) ?_
  refine lv_istore_n (lv' := [(2, .int 0), (0, .ref q), (1, .int x)]) S.x S.b d_Arrays_fill_1 rfl hl (by decide) rfl (fun ls hl => ?_)
  refine lv_aload_n S.x S.b d_Arrays_fill_2 rfl (lv_at hl 1 rfl) ?_
  refine px_len S hT hw 0 0 0 rfl rfl rfl (v := (nI nn)) rfl d_Arrays_fill_3 ?_
  refine lv_istore_n (lv' := [(3, .int (nI nn)), (2, .int 0), (0, .ref q), (1, .int x)]) S.x S.b d_Arrays_fill_4 rfl hl (by decide) rfl (fun ls hl => ?_)
  exact J5 (((nI nn).toInt+1-(0 : Int)).toNat + 1) ca (0 : Int32) (nI nn) _ _ ls (show (nI nn).toInt = (nn : Int) from by first | exact hnn | omega) (show 0 ≤ (0 : Int) from by first | decide | omega) (show (0 : Int) ≤ (nI nn).toInt from by first | exact oz_a3e4319bad hnn | omega) (show (nI nn).toInt+1-(0 : Int) < (((((nI nn).toInt+1-(0 : Int)).toNat + 1 : Nat) : Int) : Int) from by first | exact oz_natlt | omega) hw (lv_sub hl [2, 3, 1, 0] rfl)
abbrev b_HomeSystem_AnyProcess_finish : ByteArray := prog_2_method_3_code
def y_HomeSystem_AnyProcess_finish : MethodName := ⟨"HomeSystem$AnyProcess", "finish", "(II)V"⟩
theorem d_HomeSystem_AnyProcess_finish_0 : decode b_HomeSystem_AnyProcess_finish 0 = .ok (.aload_n 0, 1) := by decide +kernel
theorem d_HomeSystem_AnyProcess_finish_1 : decode b_HomeSystem_AnyProcess_finish 1 = .ok (.iload_n 1, 1) := by decide +kernel
theorem d_HomeSystem_AnyProcess_finish_2 : decode b_HomeSystem_AnyProcess_finish 2 = .ok (.putfield 22, 3) := by decide +kernel
theorem d_HomeSystem_AnyProcess_finish_5 : decode b_HomeSystem_AnyProcess_finish 5 = .ok (.aload_n 0, 1) := by decide +kernel
theorem d_HomeSystem_AnyProcess_finish_6 : decode b_HomeSystem_AnyProcess_finish 6 = .ok (.iload_n 2, 1) := by decide +kernel
theorem d_HomeSystem_AnyProcess_finish_7 : decode b_HomeSystem_AnyProcess_finish 7 = .ok (.putfield 25, 3) := by decide +kernel
theorem d_HomeSystem_AnyProcess_finish_10 : decode b_HomeSystem_AnyProcess_finish 10 = .ok (.aload_n 0, 1) := by decide +kernel
theorem d_HomeSystem_AnyProcess_finish_11 : decode b_HomeSystem_AnyProcess_finish 11 = .ok (.iconst 0, 1) := by decide +kernel
theorem d_HomeSystem_AnyProcess_finish_12 : decode b_HomeSystem_AnyProcess_finish 12 = .ok (.putfield 31, 3) := by decide +kernel
theorem d_HomeSystem_AnyProcess_finish_15 : decode b_HomeSystem_AnyProcess_finish 15 = .ok (.return_, 1) := by decide +kernel
theorem q_HomeSystem_AnyProcess_finish : px_y y_HomeSystem_AnyProcess_finish 2 := by unfold px_y; decide +kernel
set_option maxHeartbeats 4000000 in
set_option maxRecDepth 100000 in
theorem c_finish_Raw (l : Launch) (D : va_G) (cs : Nat → ClassId) (h : Nat) (r : Nat → Nat) (g : Nat → Nat → Option Nat) (o2 : Option Nat) (o4 : Option Nat) (f : Nat → Int32) (a : Nat → Nat → Int32) (p0 p1 : Int32)   : MetV l y_HomeSystem_AnyProcess_finish b_HomeSystem_AnyProcess_finish 3 D cs 0 0 (0) (0) [.ref h, .int p0, .int p1] [wd_Raw cs h r (fun k => if k = 2 then o2 else if k = 4 then o4 else none) f a g] (fun _ => True) (fun ps => ∃ (f' : Nat → Int32) (a' : Nat → Nat → Int32), (ps = [wd_Raw cs h r (fun k => if k = 2 then o2 else if k = 4 then o4 else none) f' a' g]) ∧ ((f' 3).toInt = (f 3).toInt) ∧ ((f' 7).toInt = (f 7).toInt) ∧ ((f' 8).toInt = (f 8).toInt) ∧ ((f' 10).toInt = (f 10).toInt) ∧ ((f' 13).toInt = (f 13).toInt) ∧ ((f' 14).toInt = 0) ∧ ((f' 11).toInt = p0.toInt)) := by
  refine px_enter (by decide) (Nat.le_of_ble_eq_true rfl) ?_
  intro p e s m below meth c A ls hAe S hr hlk hnm hA hT hX hw hl
  replace hl : lv_has ls 3 [(0, .ref h), (1, .int p0), (2, .int p1)] := hl
  have lp0 := Int32.le_toInt p0
  have up0 := Int32.toInt_lt p0
  have lp1 := Int32.le_toInt p1
  have up1 := Int32.toInt_lt p1
  have cst0 : (0 : Int32).toInt = 0 := rfl
  refine lv_aload_n S.x S.b d_HomeSystem_AnyProcess_finish_0 rfl (lv_at hl 0 rfl) ?_
  refine lv_iload_n S.x S.b d_HomeSystem_AnyProcess_finish_1 rfl (lv_at hl 1 rfl) ?_
  refine px_put S k_Raw hT hw 0 0 11 rfl rfl (by decide) m6_138 rfl rfl rfl (Nat.le_of_ble_eq_true rfl) d_HomeSystem_AnyProcess_finish_2 (w' := wd_Raw cs h r (fun k => if k = 2 then o2 else if k = 4 then o4 else none) (upd f 11 p0) a g) (ps' := [wd_Raw cs h r (fun k => if k = 2 then o2 else if k = 4 then o4 else none) (upd f 11 p0) a g]) rfl rfl (fun H locs hw => ?_)
  refine lv_aload_n S.x S.b d_HomeSystem_AnyProcess_finish_5 rfl (lv_at hl 0 rfl) ?_
  refine lv_iload_n S.x S.b d_HomeSystem_AnyProcess_finish_6 rfl (lv_at hl 2 rfl) ?_
  refine px_put S k_Raw hT hw 0 0 12 rfl rfl (by decide) m6_145 rfl rfl rfl (Nat.le_of_ble_eq_true rfl) d_HomeSystem_AnyProcess_finish_7 (w' := wd_Raw cs h r (fun k => if k = 2 then o2 else if k = 4 then o4 else none) (upd (upd f 11 p0) 12 p1) a g) (ps' := [wd_Raw cs h r (fun k => if k = 2 then o2 else if k = 4 then o4 else none) (upd (upd f 11 p0) 12 p1) a g]) rfl rfl (fun H locs hw => ?_)
  refine lv_aload_n S.x S.b d_HomeSystem_AnyProcess_finish_10 rfl (lv_at hl 0 rfl) ?_
  refine lv_iconst (v := 0) S.x S.b d_HomeSystem_AnyProcess_finish_11 (by decide) ?_
  refine px_put S k_Raw hT hw 0 0 14 rfl rfl (by decide) m6_150 rfl rfl rfl (Nat.le_of_ble_eq_true rfl) d_HomeSystem_AnyProcess_finish_12 (w' := wd_Raw cs h r (fun k => if k = 2 then o2 else if k = 4 then o4 else none) (upd (upd (upd f 11 p0) 12 p1) 14 0) a g) (ps' := [wd_Raw cs h r (fun k => if k = 2 then o2 else if k = 4 then o4 else none) (upd (upd (upd f 11 p0) 12 p1) 14 0) a g]) rfl rfl (fun H locs hw => ?_)
  exact px_vret S hr hlk hAe hw (Nat.le_of_ble_eq_true rfl) (Nat.le_of_ble_eq_true rfl) (⟨(upd (upd (upd f 11 p0) 12 p1) 14 0), a, rfl, (show (f 3).toInt = (f 3).toInt from rfl), (show (f 7).toInt = (f 7).toInt from rfl), (show (f 8).toInt = (f 8).toInt from rfl), (show (f 10).toInt = (f 10).toInt from rfl), (show (f 13).toInt = (f 13).toInt from rfl), (show (0 : Int) = 0 from by first | decide | omega), (show p0.toInt = p0.toInt from rfl)⟩) d_HomeSystem_AnyProcess_finish_15
abbrev b_HomeSystem_AnyProcess_write : ByteArray := prog_2_method_4_code
def y_HomeSystem_AnyProcess_write : MethodName := ⟨"HomeSystem$AnyProcess", "write", "(I)V"⟩
theorem d_HomeSystem_AnyProcess_write_0 : decode b_HomeSystem_AnyProcess_write 0 = .ok (.aload_n 0, 1) := by decide +kernel
theorem d_HomeSystem_AnyProcess_write_1 : decode b_HomeSystem_AnyProcess_write 1 = .ok (.getfield 19, 3) := by decide +kernel
theorem d_HomeSystem_AnyProcess_write_4 : decode b_HomeSystem_AnyProcess_write 4 = .ok (.sipush 256, 3) := by decide +kernel
theorem d_HomeSystem_AnyProcess_write_7 : decode b_HomeSystem_AnyProcess_write 7 = .ok (.if_icmp .ge 13, 3) := by decide +kernel
theorem d_HomeSystem_AnyProcess_write_10 : decode b_HomeSystem_AnyProcess_write 10 = .ok (.aload_n 0, 1) := by decide +kernel
theorem d_HomeSystem_AnyProcess_write_11 : decode b_HomeSystem_AnyProcess_write 11 = .ok (.getfield 9, 3) := by decide +kernel
theorem d_HomeSystem_AnyProcess_write_14 : decode b_HomeSystem_AnyProcess_write 14 = .ok (.aload_n 0, 1) := by decide +kernel
theorem d_HomeSystem_AnyProcess_write_15 : decode b_HomeSystem_AnyProcess_write 15 = .ok (.getfield 19, 3) := by decide +kernel
theorem d_HomeSystem_AnyProcess_write_18 : decode b_HomeSystem_AnyProcess_write 18 = .ok (.iload_n 1, 1) := by decide +kernel
theorem d_HomeSystem_AnyProcess_write_19 : decode b_HomeSystem_AnyProcess_write 19 = .ok (.iastore, 1) := by decide +kernel
theorem d_HomeSystem_AnyProcess_write_20 : decode b_HomeSystem_AnyProcess_write 20 = .ok (.aload_n 0, 1) := by decide +kernel
theorem d_HomeSystem_AnyProcess_write_21 : decode b_HomeSystem_AnyProcess_write 21 = .ok (.dup, 1) := by decide +kernel
theorem d_HomeSystem_AnyProcess_write_22 : decode b_HomeSystem_AnyProcess_write 22 = .ok (.getfield 19, 3) := by decide +kernel
theorem d_HomeSystem_AnyProcess_write_25 : decode b_HomeSystem_AnyProcess_write 25 = .ok (.iconst 1, 1) := by decide +kernel
theorem d_HomeSystem_AnyProcess_write_26 : decode b_HomeSystem_AnyProcess_write 26 = .ok (.iadd, 1) := by decide +kernel
theorem d_HomeSystem_AnyProcess_write_27 : decode b_HomeSystem_AnyProcess_write 27 = .ok (.putfield 19, 3) := by decide +kernel
theorem d_HomeSystem_AnyProcess_write_30 : decode b_HomeSystem_AnyProcess_write 30 = .ok (.return_, 1) := by decide +kernel
theorem q_HomeSystem_AnyProcess_write : px_y y_HomeSystem_AnyProcess_write 1 := by unfold px_y; decide +kernel
set_option maxHeartbeats 4000000 in
set_option maxRecDepth 100000 in
theorem c_write_Raw (l : Launch) (D : va_G) (cs : Nat → ClassId) (h : Nat) (r : Nat → Nat) (g : Nat → Nat → Option Nat) (o2 : Option Nat) (o4 : Option Nat) (f : Nat → Int32) (a : Nat → Nat → Int32) (p0 : Int32)  (g0 : 0 ≤ (f 10).toInt) (g1 : (f 10).toInt ≤ 1000000) : MetV l y_HomeSystem_AnyProcess_write b_HomeSystem_AnyProcess_write 2 D cs 0 0 (0) (0) [.ref h, .int p0] [wd_Raw cs h r (fun k => if k = 2 then o2 else if k = 4 then o4 else none) f a g] (fun _ => True) (fun ps => ∃ (f' : Nat → Int32) (a' : Nat → Nat → Int32), (ps = [wd_Raw cs h r (fun k => if k = 2 then o2 else if k = 4 then o4 else none) f' a' g]) ∧ ((f' 3).toInt = (f 3).toInt) ∧ ((f' 7).toInt = (f 7).toInt) ∧ ((f' 8).toInt = (f 8).toInt) ∧ ((f' 10).toInt = (f 10).toInt + 1) ∧ ((f' 13).toInt = (f 13).toInt) ∧ ((f' 14).toInt = (f 14).toInt) ∧ ((f' 11).toInt = (f 11).toInt)) := by
  refine px_enter (by decide) (Nat.le_of_ble_eq_true rfl) ?_
  intro p e s m below meth c A ls hAe S hr hlk hnm hA hT hX hw hl
  replace hl : lv_has ls 2 [(0, .ref h), (1, .int p0)] := hl
  have lp0 := Int32.le_toInt p0
  have up0 := Int32.toInt_lt p0
  have cst1 : (1 : Int32).toInt = 1 := rfl
  have cst256 : (256 : Int32).toInt = 256 := rfl
  refine lv_aload_n S.x S.b d_HomeSystem_AnyProcess_write_0 rfl (lv_at hl 0 rfl) ?_
  refine px_get S k_Raw hT hw 0 0 10 (v := .int (f 10)) rfl rfl rfl (by decide) m6_136 d_HomeSystem_AnyProcess_write_1 ?_
  refine lv_sipush (v := 256) S.x S.b d_HomeSystem_AnyProcess_write_4 (by decide) ?_
  refine lv_icmp_ge (tgt := 20) S.x S.b d_HomeSystem_AnyProcess_write_7 (by decide) (fun c1 => ?_) (fun c1 => ?_)
  · have nc1 : (256 : Int) ≤ (f 10).toInt := (i_le (x := 256) (y := (f 10))).mp c1
    refine lv_aload_n S.x S.b d_HomeSystem_AnyProcess_write_20 rfl (lv_at hl 0 rfl) ?_
    refine lv_dup S.x S.b d_HomeSystem_AnyProcess_write_21 rfl ?_
    refine px_get S k_Raw hT hw 0 0 10 (v := .int (f 10)) rfl rfl rfl (by decide) m6_136 d_HomeSystem_AnyProcess_write_22 ?_
    refine lv_iconst (v := 1) S.x S.b d_HomeSystem_AnyProcess_write_25 (by decide) ?_
    refine lv_iadd S.x S.b d_HomeSystem_AnyProcess_write_26 ?_
    have lr2 := Int32.le_toInt (f 10)
    have ur2 := Int32.toInt_lt (f 10)
    refine lv_topi (fun z3 ez3 => ?_)
    have tz3 : z3.toInt = ((f 10).toInt + (1 : Int) + 2147483648) % 4294967296 - 2147483648 := by rw [ez3]; exact i_add (f 10) 1
    have lz3 := Int32.le_toInt z3
    have uz3 := Int32.toInt_lt z3
    refine px_put S k_Raw hT hw 0 0 10 rfl rfl (by decide) m6_136 rfl rfl rfl (Nat.le_of_ble_eq_true rfl) d_HomeSystem_AnyProcess_write_27 (w' := wd_Raw cs h r (fun k => if k = 2 then o2 else if k = 4 then o4 else none) (upd f 10 z3) a g) (ps' := [wd_Raw cs h r (fun k => if k = 2 then o2 else if k = 4 then o4 else none) (upd f 10 z3) a g]) rfl rfl (fun H locs hw => ?_)
    exact px_vret S hr hlk hAe hw (Nat.le_of_ble_eq_true rfl) (Nat.le_of_ble_eq_true rfl) (⟨(upd f 10 z3), a, rfl, (show (f 3).toInt = (f 3).toInt from rfl), (show (f 7).toInt = (f 7).toInt from rfl), (show (f 8).toInt = (f 8).toInt from rfl), (show z3.toInt = (f 10).toInt + 1 from by first | with_reducible rfl | with_reducible assumption | omega), (show (f 13).toInt = (f 13).toInt from rfl), (show (f 14).toInt = (f 14).toInt from rfl), (show (f 11).toInt = (f 11).toInt from rfl)⟩) d_HomeSystem_AnyProcess_write_30
  · have nc1 : ¬ (256 : Int) ≤ (f 10).toInt := mt (i_le (x := 256) (y := (f 10))).mpr c1
    refine lv_aload_n S.x S.b d_HomeSystem_AnyProcess_write_10 rfl (lv_at hl 0 rfl) ?_
    refine px_get S k_Raw hT hw 0 0 9 (v := .ref (r 9)) rfl rfl rfl (by decide) m6_134 d_HomeSystem_AnyProcess_write_11 ?_
    refine lv_aload_n S.x S.b d_HomeSystem_AnyProcess_write_14 rfl (lv_at hl 0 rfl) ?_
    refine px_get S k_Raw hT hw 0 0 10 (v := .int (f 10)) rfl rfl rfl (by decide) m6_136 d_HomeSystem_AnyProcess_write_15 ?_
    refine lv_iload_n S.x S.b d_HomeSystem_AnyProcess_write_18 rfl (lv_at hl 1 rfl) ?_
    refine px_iast S hT hw 0 3 (n := 256) (f := (a 9)) (x := (f 10)) (y := p0) rfl rfl (vp_in_iff.mpr (by constructor <;> omega)) d_HomeSystem_AnyProcess_write_19 (w' := wd_Raw cs h r (fun k => if k = 2 then o2 else if k = 4 then o4 else none) f (va_up a 9 (upd (a 9) (f 10).toNatClampNeg p0)) g) (ps' := [wd_Raw cs h r (fun k => if k = 2 then o2 else if k = 4 then o4 else none) f (va_up a 9 (upd (a 9) (f 10).toNatClampNeg p0)) g]) rfl rfl (fun H locs hw => ?_)
    refine lv_aload_n S.x S.b d_HomeSystem_AnyProcess_write_20 rfl (lv_at hl 0 rfl) ?_
    refine lv_dup S.x S.b d_HomeSystem_AnyProcess_write_21 rfl ?_
    refine px_get S k_Raw hT hw 0 0 10 (v := .int (f 10)) rfl rfl rfl (by decide) m6_136 d_HomeSystem_AnyProcess_write_22 ?_
    refine lv_iconst (v := 1) S.x S.b d_HomeSystem_AnyProcess_write_25 (by decide) ?_
    refine lv_iadd S.x S.b d_HomeSystem_AnyProcess_write_26 ?_
    have lr4 := Int32.le_toInt (f 10)
    have ur4 := Int32.toInt_lt (f 10)
    refine lv_topi (fun z5 ez5 => ?_)
    have tz5 : z5.toInt = ((f 10).toInt + (1 : Int) + 2147483648) % 4294967296 - 2147483648 := by rw [ez5]; exact i_add (f 10) 1
    have lz5 := Int32.le_toInt z5
    have uz5 := Int32.toInt_lt z5
    refine px_put S k_Raw hT hw 0 0 10 rfl rfl (by decide) m6_136 rfl rfl rfl (Nat.le_of_ble_eq_true rfl) d_HomeSystem_AnyProcess_write_27 (w' := wd_Raw cs h r (fun k => if k = 2 then o2 else if k = 4 then o4 else none) (upd f 10 z5) (va_up a 9 (upd (a 9) (f 10).toNatClampNeg p0)) g) (ps' := [wd_Raw cs h r (fun k => if k = 2 then o2 else if k = 4 then o4 else none) (upd f 10 z5) (va_up a 9 (upd (a 9) (f 10).toNatClampNeg p0)) g]) rfl rfl (fun H locs hw => ?_)
    exact px_vret S hr hlk hAe hw (Nat.le_of_ble_eq_true rfl) (Nat.le_of_ble_eq_true rfl) (⟨(upd f 10 z5), (va_up a 9 (upd (a 9) (f 10).toNatClampNeg p0)), rfl, (show (f 3).toInt = (f 3).toInt from rfl), (show (f 7).toInt = (f 7).toInt from rfl), (show (f 8).toInt = (f 8).toInt from rfl), (show z5.toInt = (f 10).toInt + 1 from by first | with_reducible rfl | with_reducible assumption | omega), (show (f 13).toInt = (f 13).toInt from rfl), (show (f 14).toInt = (f 14).toInt from rfl), (show (f 11).toInt = (f 11).toInt from rfl)⟩) d_HomeSystem_AnyProcess_write_30
abbrev b_HomeSystem_AnyProcess_reset : ByteArray := prog_2_method_2_code
def y_HomeSystem_AnyProcess_reset : MethodName := ⟨"HomeSystem$AnyProcess", "reset", "()V"⟩
theorem d_HomeSystem_AnyProcess_reset_0 : decode b_HomeSystem_AnyProcess_reset 0 = .ok (.aload_n 0, 1) := by decide +kernel
theorem d_HomeSystem_AnyProcess_reset_1 : decode b_HomeSystem_AnyProcess_reset 1 = .ok (.iconst 0, 1) := by decide +kernel
theorem d_HomeSystem_AnyProcess_reset_2 : decode b_HomeSystem_AnyProcess_reset 2 = .ok (.putfield 19, 3) := by decide +kernel
theorem d_HomeSystem_AnyProcess_reset_5 : decode b_HomeSystem_AnyProcess_reset 5 = .ok (.aload_n 0, 1) := by decide +kernel
theorem d_HomeSystem_AnyProcess_reset_6 : decode b_HomeSystem_AnyProcess_reset 6 = .ok (.bipush (-2), 2) := by decide +kernel
theorem d_HomeSystem_AnyProcess_reset_8 : decode b_HomeSystem_AnyProcess_reset 8 = .ok (.putfield 22, 3) := by decide +kernel
theorem d_HomeSystem_AnyProcess_reset_11 : decode b_HomeSystem_AnyProcess_reset 11 = .ok (.aload_n 0, 1) := by decide +kernel
theorem d_HomeSystem_AnyProcess_reset_12 : decode b_HomeSystem_AnyProcess_reset 12 = .ok (.iconst 0, 1) := by decide +kernel
theorem d_HomeSystem_AnyProcess_reset_13 : decode b_HomeSystem_AnyProcess_reset 13 = .ok (.putfield 25, 3) := by decide +kernel
theorem d_HomeSystem_AnyProcess_reset_16 : decode b_HomeSystem_AnyProcess_reset 16 = .ok (.aload_n 0, 1) := by decide +kernel
theorem d_HomeSystem_AnyProcess_reset_17 : decode b_HomeSystem_AnyProcess_reset 17 = .ok (.iconst 0, 1) := by decide +kernel
theorem d_HomeSystem_AnyProcess_reset_18 : decode b_HomeSystem_AnyProcess_reset 18 = .ok (.putfield 28, 3) := by decide +kernel
theorem d_HomeSystem_AnyProcess_reset_21 : decode b_HomeSystem_AnyProcess_reset 21 = .ok (.aload_n 0, 1) := by decide +kernel
theorem d_HomeSystem_AnyProcess_reset_22 : decode b_HomeSystem_AnyProcess_reset 22 = .ok (.iconst 0, 1) := by decide +kernel
theorem d_HomeSystem_AnyProcess_reset_23 : decode b_HomeSystem_AnyProcess_reset 23 = .ok (.putfield 31, 3) := by decide +kernel
theorem d_HomeSystem_AnyProcess_reset_26 : decode b_HomeSystem_AnyProcess_reset 26 = .ok (.return_, 1) := by decide +kernel
theorem q_HomeSystem_AnyProcess_reset : px_y y_HomeSystem_AnyProcess_reset 0 := by unfold px_y; decide +kernel
set_option maxHeartbeats 4000000 in
set_option maxRecDepth 100000 in
theorem c_reset_Raw (l : Launch) (D : va_G) (cs : Nat → ClassId) (h : Nat) (r : Nat → Nat) (g : Nat → Nat → Option Nat) (o2 : Option Nat) (o4 : Option Nat) (f : Nat → Int32) (a : Nat → Nat → Int32)   : MetV l y_HomeSystem_AnyProcess_reset b_HomeSystem_AnyProcess_reset 1 D cs 0 0 (0) (0) [.ref h] [wd_Raw cs h r (fun k => if k = 2 then o2 else if k = 4 then o4 else none) f a g] (fun _ => True) (fun ps => ∃ (f' : Nat → Int32) (a' : Nat → Nat → Int32), (ps = [wd_Raw cs h r (fun k => if k = 2 then o2 else if k = 4 then o4 else none) f' a' g]) ∧ ((f' 3).toInt = (f 3).toInt) ∧ ((f' 7).toInt = (f 7).toInt) ∧ ((f' 8).toInt = (f 8).toInt) ∧ ((f' 10).toInt = 0) ∧ ((f' 13).toInt = 0) ∧ ((f' 14).toInt = 0) ∧ ((f' 11).toInt = -2)) := by
  refine px_enter (by decide) (Nat.le_of_ble_eq_true rfl) ?_
  intro p e s m below meth c A ls hAe S hr hlk hnm hA hT hX hw hl
  replace hl : lv_has ls 1 [(0, .ref h)] := hl
  have cstm2 : ((-2) : Int32).toInt = (-2) := rfl
  have cst0 : (0 : Int32).toInt = 0 := rfl
  refine lv_aload_n S.x S.b d_HomeSystem_AnyProcess_reset_0 rfl (lv_at hl 0 rfl) ?_
  refine lv_iconst (v := 0) S.x S.b d_HomeSystem_AnyProcess_reset_1 (by decide) ?_
  refine px_put S k_Raw hT hw 0 0 10 rfl rfl (by decide) m6_136 rfl rfl rfl (Nat.le_of_ble_eq_true rfl) d_HomeSystem_AnyProcess_reset_2 (w' := wd_Raw cs h r (fun k => if k = 2 then o2 else if k = 4 then o4 else none) (upd f 10 0) a g) (ps' := [wd_Raw cs h r (fun k => if k = 2 then o2 else if k = 4 then o4 else none) (upd f 10 0) a g]) rfl rfl (fun H locs hw => ?_)
  refine lv_aload_n S.x S.b d_HomeSystem_AnyProcess_reset_5 rfl (lv_at hl 0 rfl) ?_
  refine lv_bipush (v := (-2)) S.x S.b d_HomeSystem_AnyProcess_reset_6 (by decide) ?_
  refine px_put S k_Raw hT hw 0 0 11 rfl rfl (by decide) m6_138 rfl rfl rfl (Nat.le_of_ble_eq_true rfl) d_HomeSystem_AnyProcess_reset_8 (w' := wd_Raw cs h r (fun k => if k = 2 then o2 else if k = 4 then o4 else none) (upd (upd f 10 0) 11 (-2)) a g) (ps' := [wd_Raw cs h r (fun k => if k = 2 then o2 else if k = 4 then o4 else none) (upd (upd f 10 0) 11 (-2)) a g]) rfl rfl (fun H locs hw => ?_)
  refine lv_aload_n S.x S.b d_HomeSystem_AnyProcess_reset_11 rfl (lv_at hl 0 rfl) ?_
  refine lv_iconst (v := 0) S.x S.b d_HomeSystem_AnyProcess_reset_12 (by decide) ?_
  refine px_put S k_Raw hT hw 0 0 12 rfl rfl (by decide) m6_145 rfl rfl rfl (Nat.le_of_ble_eq_true rfl) d_HomeSystem_AnyProcess_reset_13 (w' := wd_Raw cs h r (fun k => if k = 2 then o2 else if k = 4 then o4 else none) (upd (upd (upd f 10 0) 11 (-2)) 12 0) a g) (ps' := [wd_Raw cs h r (fun k => if k = 2 then o2 else if k = 4 then o4 else none) (upd (upd (upd f 10 0) 11 (-2)) 12 0) a g]) rfl rfl (fun H locs hw => ?_)
  refine lv_aload_n S.x S.b d_HomeSystem_AnyProcess_reset_16 rfl (lv_at hl 0 rfl) ?_
  refine lv_iconst (v := 0) S.x S.b d_HomeSystem_AnyProcess_reset_17 (by decide) ?_
  refine px_put S k_Raw hT hw 0 0 13 rfl rfl (by decide) m6_148 rfl rfl rfl (Nat.le_of_ble_eq_true rfl) d_HomeSystem_AnyProcess_reset_18 (w' := wd_Raw cs h r (fun k => if k = 2 then o2 else if k = 4 then o4 else none) (upd (upd (upd (upd f 10 0) 11 (-2)) 12 0) 13 0) a g) (ps' := [wd_Raw cs h r (fun k => if k = 2 then o2 else if k = 4 then o4 else none) (upd (upd (upd (upd f 10 0) 11 (-2)) 12 0) 13 0) a g]) rfl rfl (fun H locs hw => ?_)
  refine lv_aload_n S.x S.b d_HomeSystem_AnyProcess_reset_21 rfl (lv_at hl 0 rfl) ?_
  refine lv_iconst (v := 0) S.x S.b d_HomeSystem_AnyProcess_reset_22 (by decide) ?_
  refine px_put S k_Raw hT hw 0 0 14 rfl rfl (by decide) m6_150 rfl rfl rfl (Nat.le_of_ble_eq_true rfl) d_HomeSystem_AnyProcess_reset_23 (w' := wd_Raw cs h r (fun k => if k = 2 then o2 else if k = 4 then o4 else none) (upd (upd (upd (upd (upd f 10 0) 11 (-2)) 12 0) 13 0) 14 0) a g) (ps' := [wd_Raw cs h r (fun k => if k = 2 then o2 else if k = 4 then o4 else none) (upd (upd (upd (upd (upd f 10 0) 11 (-2)) 12 0) 13 0) 14 0) a g]) rfl rfl (fun H locs hw => ?_)
  exact px_vret S hr hlk hAe hw (Nat.le_of_ble_eq_true rfl) (Nat.le_of_ble_eq_true rfl) (⟨(upd (upd (upd (upd (upd f 10 0) 11 (-2)) 12 0) 13 0) 14 0), a, rfl, (show (f 3).toInt = (f 3).toInt from rfl), (show (f 7).toInt = (f 7).toInt from rfl), (show (f 8).toInt = (f 8).toInt from rfl), (show (0 : Int) = 0 from by first | decide | omega), (show (0 : Int) = 0 from by first | decide | omega), (show (0 : Int) = 0 from by first | decide | omega), (show (-2 : Int) = -2 from by first | decide | omega)⟩) d_HomeSystem_AnyProcess_reset_26
abbrev b_Raw_isCode : ByteArray := prog_8_method_8_code
def y_Raw_isCode : MethodName := ⟨"HomeSystem$RawProcess", "isCode", "(I)Z"⟩
theorem d_Raw_isCode_0 : decode b_Raw_isCode 0 = .ok (.iload_n 0, 1) := by decide +kernel
theorem d_Raw_isCode_1 : decode b_Raw_isCode 1 = .ok (.ldc 37, 2) := by decide +kernel
theorem d_Raw_isCode_3 : decode b_Raw_isCode 3 = .ok (.if_icmp .lt 13, 3) := by decide +kernel
theorem d_Raw_isCode_6 : decode b_Raw_isCode 6 = .ok (.iload_n 0, 1) := by decide +kernel
theorem d_Raw_isCode_7 : decode b_Raw_isCode 7 = .ok (.ldc 92, 2) := by decide +kernel
theorem d_Raw_isCode_9 : decode b_Raw_isCode 9 = .ok (.if_icmp .ge 7, 3) := by decide +kernel
theorem d_Raw_isCode_12 : decode b_Raw_isCode 12 = .ok (.iconst 1, 1) := by decide +kernel
theorem d_Raw_isCode_13 : decode b_Raw_isCode 13 = .ok (.goto 4, 3) := by decide +kernel
theorem d_Raw_isCode_16 : decode b_Raw_isCode 16 = .ok (.iconst 0, 1) := by decide +kernel
theorem d_Raw_isCode_17 : decode b_Raw_isCode 17 = .ok (.ireturn, 1) := by decide +kernel
theorem q_Raw_isCode : px_y y_Raw_isCode 1 := by unfold px_y; decide +kernel
set_option maxHeartbeats 4000000 in
set_option maxRecDepth 100000 in
theorem c_Raw_isCode (l : Launch) (D : va_G) (cs : Nat → ClassId)  (i : Int32)   : MetI l y_Raw_isCode b_Raw_isCode 1 (.boolean) D cs 0 0 (0) (0) [.int i] [] (fun _ => True) (fun v ps => (ps = []) ∧ (v = 0 ∨ v = 1) ∧ (v.toInt = 1 → 4194304 ≤ i.toInt ∧ i.toInt < 4198400)) := by
  refine px_enter (by decide) (Nat.le_of_ble_eq_true rfl) ?_
  intro p e s m below meth c A ls hAe S hr hlk hnm hA hT hX hw hl
  replace hl : lv_has ls 1 [(0, .int i)] := hl
  have li := Int32.le_toInt i
  have ui := Int32.toInt_lt i
  have cst0 : (0 : Int32).toInt = 0 := rfl
  have cst1 : (1 : Int32).toInt = 1 := rfl
  refine lv_iload_n S.x S.b d_Raw_isCode_0 rfl (lv_at hl 0 rfl) ?_
  refine lv_ldc (v := 4194304) S.x S.b S.own (S.w m7_43) d_Raw_isCode_1 ?_
  refine lv_icmp_lt (tgt := 16) S.x S.b d_Raw_isCode_3 (by decide) (fun c1 => ?_) (fun c1 => ?_)
  · have nc1 : i.toInt < (4194304 : Int) := (i_lt (x := i) (y := 4194304)).mp c1
    refine lv_iconst (v := 0) S.x S.b d_Raw_isCode_16 (by decide) ?_
    exact px_iret (v := 0) S hr rfl hlk hAe hw (Nat.le_of_ble_eq_true rfl) (Nat.le_of_ble_eq_true rfl) (⟨rfl, (show (0 : Int32) = 0 ∨ (0 : Int32) = 1 from by first | exact Or.inl rfl | exact Or.inr rfl | exact z_or (by omega)), (show (0 : Int) = 1 → 4194304 ≤ i.toInt ∧ i.toInt < 4198400 from by first | with_reducible rfl | with_reducible assumption | omega)⟩) d_Raw_isCode_17
  · have nc1 : ¬ i.toInt < (4194304 : Int) := mt (i_lt (x := i) (y := 4194304)).mpr c1
    refine lv_iload_n S.x S.b d_Raw_isCode_6 rfl (lv_at hl 0 rfl) ?_
    refine lv_ldc (v := 4198400) S.x S.b S.own (S.w m8_107) d_Raw_isCode_7 ?_
    refine lv_icmp_ge (tgt := 16) S.x S.b d_Raw_isCode_9 (by decide) (fun c2 => ?_) (fun c2 => ?_)
    · have nc2 : (4198400 : Int) ≤ i.toInt := (i_le (x := 4198400) (y := i)).mp c2
      refine lv_iconst (v := 0) S.x S.b d_Raw_isCode_16 (by decide) ?_
      exact px_iret (v := 0) S hr rfl hlk hAe hw (Nat.le_of_ble_eq_true rfl) (Nat.le_of_ble_eq_true rfl) (⟨rfl, (show (0 : Int32) = 0 ∨ (0 : Int32) = 1 from by first | exact Or.inl rfl | exact Or.inr rfl | exact z_or (by omega)), (show (0 : Int) = 1 → 4194304 ≤ i.toInt ∧ i.toInt < 4198400 from by first | with_reducible rfl | with_reducible assumption | omega)⟩) d_Raw_isCode_17
    · have nc2 : ¬ (4198400 : Int) ≤ i.toInt := mt (i_le (x := 4198400) (y := i)).mpr c2
      refine lv_iconst (v := 1) S.x S.b d_Raw_isCode_12 (by decide) ?_
      refine lv_goto (tgt := 17) S.x S.b d_Raw_isCode_13 (by decide) ?_
      exact px_iret (v := 1) S hr rfl hlk hAe hw (Nat.le_of_ble_eq_true rfl) (Nat.le_of_ble_eq_true rfl) (⟨rfl, (show (1 : Int32) = 0 ∨ (1 : Int32) = 1 from by first | exact Or.inl rfl | exact Or.inr rfl | exact z_or (by omega)), (show (1 : Int) = 1 → 4194304 ≤ i.toInt ∧ i.toInt < 4198400 from by first | with_reducible rfl | with_reducible assumption | omega)⟩) d_Raw_isCode_17
abbrev b_Raw_cellAt : ByteArray := prog_8_method_9_code
def y_Raw_cellAt : MethodName := ⟨"HomeSystem$RawProcess", "cellAt", "(I)I"⟩
theorem d_Raw_cellAt_0 : decode b_Raw_cellAt 0 = .ok (.iload_n 0, 1) := by decide +kernel
theorem d_Raw_cellAt_1 : decode b_Raw_cellAt 1 = .ok (.ldc 93, 2) := by decide +kernel
theorem d_Raw_cellAt_3 : decode b_Raw_cellAt 3 = .ok (.if_icmp .lt 16, 3) := by decide +kernel
theorem d_Raw_cellAt_6 : decode b_Raw_cellAt 6 = .ok (.iload_n 0, 1) := by decide +kernel
theorem d_Raw_cellAt_7 : decode b_Raw_cellAt 7 = .ok (.ldc 94, 2) := by decide +kernel
theorem d_Raw_cellAt_9 : decode b_Raw_cellAt 9 = .ok (.if_icmp .ge 10, 3) := by decide +kernel
theorem d_Raw_cellAt_12 : decode b_Raw_cellAt 12 = .ok (.iload_n 0, 1) := by decide +kernel
theorem d_Raw_cellAt_13 : decode b_Raw_cellAt 13 = .ok (.ldc 93, 2) := by decide +kernel
theorem d_Raw_cellAt_15 : decode b_Raw_cellAt 15 = .ok (.isub, 1) := by decide +kernel
theorem d_Raw_cellAt_16 : decode b_Raw_cellAt 16 = .ok (.iconst 2, 1) := by decide +kernel
theorem d_Raw_cellAt_17 : decode b_Raw_cellAt 17 = .ok (.ishr, 1) := by decide +kernel
theorem d_Raw_cellAt_18 : decode b_Raw_cellAt 18 = .ok (.ireturn, 1) := by decide +kernel
theorem d_Raw_cellAt_19 : decode b_Raw_cellAt 19 = .ok (.iload_n 0, 1) := by decide +kernel
theorem d_Raw_cellAt_20 : decode b_Raw_cellAt 20 = .ok (.ldc 95, 2) := by decide +kernel
theorem d_Raw_cellAt_22 : decode b_Raw_cellAt 22 = .ok (.if_icmp .lt 22, 3) := by decide +kernel
theorem d_Raw_cellAt_25 : decode b_Raw_cellAt 25 = .ok (.iload_n 0, 1) := by decide +kernel
theorem d_Raw_cellAt_26 : decode b_Raw_cellAt 26 = .ok (.ldc 28, 2) := by decide +kernel
theorem d_Raw_cellAt_28 : decode b_Raw_cellAt 28 = .ok (.if_icmp .ge 16, 3) := by decide +kernel
theorem d_Raw_cellAt_31 : decode b_Raw_cellAt 31 = .ok (.sipush 4096, 3) := by decide +kernel
theorem d_Raw_cellAt_34 : decode b_Raw_cellAt 34 = .ok (.iload_n 0, 1) := by decide +kernel
theorem d_Raw_cellAt_35 : decode b_Raw_cellAt 35 = .ok (.ldc 95, 2) := by decide +kernel
theorem d_Raw_cellAt_37 : decode b_Raw_cellAt 37 = .ok (.isub, 1) := by decide +kernel
theorem d_Raw_cellAt_38 : decode b_Raw_cellAt 38 = .ok (.iconst 2, 1) := by decide +kernel
theorem d_Raw_cellAt_39 : decode b_Raw_cellAt 39 = .ok (.ishr, 1) := by decide +kernel
theorem d_Raw_cellAt_40 : decode b_Raw_cellAt 40 = .ok (.iadd, 1) := by decide +kernel
theorem d_Raw_cellAt_41 : decode b_Raw_cellAt 41 = .ok (.goto 4, 3) := by decide +kernel
theorem d_Raw_cellAt_44 : decode b_Raw_cellAt 44 = .ok (.iconst (-1), 1) := by decide +kernel
theorem d_Raw_cellAt_45 : decode b_Raw_cellAt 45 = .ok (.ireturn, 1) := by decide +kernel
theorem q_Raw_cellAt : px_y y_Raw_cellAt 1 := by unfold px_y; decide +kernel
set_option maxHeartbeats 4000000 in
set_option maxRecDepth 100000 in
theorem c_Raw_cellAt (l : Launch) (D : va_G) (cs : Nat → ClassId)  (i : Int32)   : MetI l y_Raw_cellAt b_Raw_cellAt 1 (.int) D cs 0 0 (0) (0) [.int i] [] (fun _ => True) (fun v ps => (ps = []) ∧ (-1 ≤ v.toInt) ∧ (v.toInt ≤ 36863)) := by
  refine px_enter (by decide) (Nat.le_of_ble_eq_true rfl) ?_
  intro p e s m below meth c A ls hAe S hr hlk hnm hA hT hX hw hl
  replace hl : lv_has ls 1 [(0, .int i)] := hl
  have li := Int32.le_toInt i
  have ui := Int32.toInt_lt i
  have cstm1 : ((-1) : Int32).toInt = (-1) := rfl
  have cst2 : (2 : Int32).toInt = 2 := rfl
  have cst4096 : (4096 : Int32).toInt = 4096 := rfl
  refine lv_iload_n S.x S.b d_Raw_cellAt_0 rfl (lv_at hl 0 rfl) ?_
  refine lv_ldc (v := 5242880) S.x S.b S.own (S.w m8_101) d_Raw_cellAt_1 ?_
  refine lv_icmp_lt (tgt := 19) S.x S.b d_Raw_cellAt_3 (by decide) (fun c1 => ?_) (fun c1 => ?_)
  · have nc1 : i.toInt < (5242880 : Int) := (i_lt (x := i) (y := 5242880)).mp c1
    refine lv_iload_n S.x S.b d_Raw_cellAt_19 rfl (lv_at hl 0 rfl) ?_
    refine lv_ldc (v := 8257536) S.x S.b S.own (S.w m8_103) d_Raw_cellAt_20 ?_
    refine lv_icmp_lt (tgt := 44) S.x S.b d_Raw_cellAt_22 (by decide) (fun c2 => ?_) (fun c2 => ?_)
    · have nc2 : i.toInt < (8257536 : Int) := (i_lt (x := i) (y := 8257536)).mp c2
      refine lv_iconst (v := (-1)) S.x S.b d_Raw_cellAt_44 (by decide) ?_
      exact px_iret (v := (-1)) S hr rfl hlk hAe hw (Nat.le_of_ble_eq_true rfl) (Nat.le_of_ble_eq_true rfl) (⟨rfl, (show -1 ≤ (-1 : Int) from by first | decide | omega), (show (-1 : Int) ≤ 36863 from by first | decide | omega)⟩) d_Raw_cellAt_45
    · have nc2 : ¬ i.toInt < (8257536 : Int) := mt (i_lt (x := i) (y := 8257536)).mpr c2
      refine lv_iload_n S.x S.b d_Raw_cellAt_25 rfl (lv_at hl 0 rfl) ?_
      refine lv_ldc (v := 8388608) S.x S.b S.own (S.w m7_42) d_Raw_cellAt_26 ?_
      refine lv_icmp_ge (tgt := 44) S.x S.b d_Raw_cellAt_28 (by decide) (fun c3 => ?_) (fun c3 => ?_)
      · have nc3 : (8388608 : Int) ≤ i.toInt := (i_le (x := 8388608) (y := i)).mp c3
        refine lv_iconst (v := (-1)) S.x S.b d_Raw_cellAt_44 (by decide) ?_
        exact px_iret (v := (-1)) S hr rfl hlk hAe hw (Nat.le_of_ble_eq_true rfl) (Nat.le_of_ble_eq_true rfl) (⟨rfl, (show -1 ≤ (-1 : Int) from by first | decide | omega), (show (-1 : Int) ≤ 36863 from by first | decide | omega)⟩) d_Raw_cellAt_45
      · have nc3 : ¬ (8388608 : Int) ≤ i.toInt := mt (i_le (x := 8388608) (y := i)).mpr c3
        refine lv_sipush (v := 4096) S.x S.b d_Raw_cellAt_31 (by decide) ?_
        refine lv_iload_n S.x S.b d_Raw_cellAt_34 rfl (lv_at hl 0 rfl) ?_
        refine lv_ldc (v := 8257536) S.x S.b S.own (S.w m8_103) d_Raw_cellAt_35 ?_
        refine lv_isub S.x S.b d_Raw_cellAt_37 ?_
        refine lv_topi (fun z4 ez4 => ?_)
        have tz4 : z4.toInt = (i.toInt - (8257536 : Int) + 2147483648) % 4294967296 - 2147483648 := by rw [ez4]; exact i_sub i 8257536
        have lz4 := Int32.le_toInt z4
        have uz4 := Int32.toInt_lt z4
        refine lv_iconst (v := 2) S.x S.b d_Raw_cellAt_38 (by decide) ?_
        refine lv_ishr S.x S.b d_Raw_cellAt_39 ?_
        refine lv_topi (fun z5 ez5 => ?_)
        have tz5 : z5.toInt = z4.toInt / 4 := by rw [ez5]; exact i_shr z4 2 (k := 2) (d := 4) (by decide) (by decide)
        have lz5 := Int32.le_toInt z5
        have uz5 := Int32.toInt_lt z5
        refine lv_iadd S.x S.b d_Raw_cellAt_40 ?_
        refine lv_topi (fun z6 ez6 => ?_)
        have tz6 : z6.toInt = ((4096 : Int) + z5.toInt + 2147483648) % 4294967296 - 2147483648 := by rw [ez6]; exact i_add 4096 z5
        have lz6 := Int32.le_toInt z6
        have uz6 := Int32.toInt_lt z6
        refine lv_goto (tgt := 45) S.x S.b d_Raw_cellAt_41 (by decide) ?_
        exact px_iret (v := z6) S hr rfl hlk hAe hw (Nat.le_of_ble_eq_true rfl) (Nat.le_of_ble_eq_true rfl) (⟨rfl, (show -1 ≤ z6.toInt from by first | with_reducible rfl | with_reducible assumption | omega), (show z6.toInt ≤ 36863 from by first | with_reducible rfl | with_reducible assumption | omega)⟩) d_Raw_cellAt_45
  · have nc1 : ¬ i.toInt < (5242880 : Int) := mt (i_lt (x := i) (y := 5242880)).mpr c1
    refine lv_iload_n S.x S.b d_Raw_cellAt_6 rfl (lv_at hl 0 rfl) ?_
    refine lv_ldc (v := 5259264) S.x S.b S.own (S.w m8_102) d_Raw_cellAt_7 ?_
    refine lv_icmp_ge (tgt := 19) S.x S.b d_Raw_cellAt_9 (by decide) (fun c7 => ?_) (fun c7 => ?_)
    · have nc7 : (5259264 : Int) ≤ i.toInt := (i_le (x := 5259264) (y := i)).mp c7
      refine lv_iload_n S.x S.b d_Raw_cellAt_19 rfl (lv_at hl 0 rfl) ?_
      refine lv_ldc (v := 8257536) S.x S.b S.own (S.w m8_103) d_Raw_cellAt_20 ?_
      refine lv_icmp_lt (tgt := 44) S.x S.b d_Raw_cellAt_22 (by decide) (fun c8 => ?_) (fun c8 => ?_)
      · have nc8 : i.toInt < (8257536 : Int) := (i_lt (x := i) (y := 8257536)).mp c8
        refine lv_iconst (v := (-1)) S.x S.b d_Raw_cellAt_44 (by decide) ?_
        exact px_iret (v := (-1)) S hr rfl hlk hAe hw (Nat.le_of_ble_eq_true rfl) (Nat.le_of_ble_eq_true rfl) (⟨rfl, (show -1 ≤ (-1 : Int) from by first | decide | omega), (show (-1 : Int) ≤ 36863 from by first | decide | omega)⟩) d_Raw_cellAt_45
      · have nc8 : ¬ i.toInt < (8257536 : Int) := mt (i_lt (x := i) (y := 8257536)).mpr c8
        refine lv_iload_n S.x S.b d_Raw_cellAt_25 rfl (lv_at hl 0 rfl) ?_
        refine lv_ldc (v := 8388608) S.x S.b S.own (S.w m7_42) d_Raw_cellAt_26 ?_
        refine lv_icmp_ge (tgt := 44) S.x S.b d_Raw_cellAt_28 (by decide) (fun c9 => ?_) (fun c9 => ?_)
        · have nc9 : (8388608 : Int) ≤ i.toInt := (i_le (x := 8388608) (y := i)).mp c9
          refine lv_iconst (v := (-1)) S.x S.b d_Raw_cellAt_44 (by decide) ?_
          exact px_iret (v := (-1)) S hr rfl hlk hAe hw (Nat.le_of_ble_eq_true rfl) (Nat.le_of_ble_eq_true rfl) (⟨rfl, (show -1 ≤ (-1 : Int) from by first | decide | omega), (show (-1 : Int) ≤ 36863 from by first | decide | omega)⟩) d_Raw_cellAt_45
        · have nc9 : ¬ (8388608 : Int) ≤ i.toInt := mt (i_le (x := 8388608) (y := i)).mpr c9
          refine lv_sipush (v := 4096) S.x S.b d_Raw_cellAt_31 (by decide) ?_
          refine lv_iload_n S.x S.b d_Raw_cellAt_34 rfl (lv_at hl 0 rfl) ?_
          refine lv_ldc (v := 8257536) S.x S.b S.own (S.w m8_103) d_Raw_cellAt_35 ?_
          refine lv_isub S.x S.b d_Raw_cellAt_37 ?_
          refine lv_topi (fun z10 ez10 => ?_)
          have tz10 : z10.toInt = (i.toInt - (8257536 : Int) + 2147483648) % 4294967296 - 2147483648 := by rw [ez10]; exact i_sub i 8257536
          have lz10 := Int32.le_toInt z10
          have uz10 := Int32.toInt_lt z10
          refine lv_iconst (v := 2) S.x S.b d_Raw_cellAt_38 (by decide) ?_
          refine lv_ishr S.x S.b d_Raw_cellAt_39 ?_
          refine lv_topi (fun z11 ez11 => ?_)
          have tz11 : z11.toInt = z10.toInt / 4 := by rw [ez11]; exact i_shr z10 2 (k := 2) (d := 4) (by decide) (by decide)
          have lz11 := Int32.le_toInt z11
          have uz11 := Int32.toInt_lt z11
          refine lv_iadd S.x S.b d_Raw_cellAt_40 ?_
          refine lv_topi (fun z12 ez12 => ?_)
          have tz12 : z12.toInt = ((4096 : Int) + z11.toInt + 2147483648) % 4294967296 - 2147483648 := by rw [ez12]; exact i_add 4096 z11
          have lz12 := Int32.le_toInt z12
          have uz12 := Int32.toInt_lt z12
          refine lv_goto (tgt := 45) S.x S.b d_Raw_cellAt_41 (by decide) ?_
          exact px_iret (v := z12) S hr rfl hlk hAe hw (Nat.le_of_ble_eq_true rfl) (Nat.le_of_ble_eq_true rfl) (⟨rfl, (show -1 ≤ z12.toInt from by first | with_reducible rfl | with_reducible assumption | omega), (show z12.toInt ≤ 36863 from by first | with_reducible rfl | with_reducible assumption | omega)⟩) d_Raw_cellAt_45
    · have nc7 : ¬ (5259264 : Int) ≤ i.toInt := mt (i_le (x := 5259264) (y := i)).mpr c7
      refine lv_iload_n S.x S.b d_Raw_cellAt_12 rfl (lv_at hl 0 rfl) ?_
      refine lv_ldc (v := 5242880) S.x S.b S.own (S.w m8_101) d_Raw_cellAt_13 ?_
      refine lv_isub S.x S.b d_Raw_cellAt_15 ?_
      refine lv_topi (fun z13 ez13 => ?_)
      have tz13 : z13.toInt = (i.toInt - (5242880 : Int) + 2147483648) % 4294967296 - 2147483648 := by rw [ez13]; exact i_sub i 5242880
      have lz13 := Int32.le_toInt z13
      have uz13 := Int32.toInt_lt z13
      refine lv_iconst (v := 2) S.x S.b d_Raw_cellAt_16 (by decide) ?_
      refine lv_ishr S.x S.b d_Raw_cellAt_17 ?_
      refine lv_topi (fun z14 ez14 => ?_)
      have tz14 : z14.toInt = z13.toInt / 4 := by rw [ez14]; exact i_shr z13 2 (k := 2) (d := 4) (by decide) (by decide)
      have lz14 := Int32.le_toInt z14
      have uz14 := Int32.toInt_lt z14
      exact px_iret (v := z14) S hr rfl hlk hAe hw (Nat.le_of_ble_eq_true rfl) (Nat.le_of_ble_eq_true rfl) (⟨rfl, (show -1 ≤ z14.toInt from by first | with_reducible rfl | with_reducible assumption | omega), (show z14.toInt ≤ 36863 from by first | with_reducible rfl | with_reducible assumption | omega)⟩) d_Raw_cellAt_18
abbrev b_Raw_setRegister : ByteArray := prog_8_method_12_code
def y_Raw_setRegister : MethodName := ⟨"HomeSystem$RawProcess", "setRegister", "(II)V"⟩
theorem d_Raw_setRegister_0 : decode b_Raw_setRegister 0 = .ok (.iload_n 1, 1) := by decide +kernel
theorem d_Raw_setRegister_1 : decode b_Raw_setRegister 1 = .ok (.ifCond .le 16, 3) := by decide +kernel
theorem d_Raw_setRegister_4 : decode b_Raw_setRegister 4 = .ok (.iload_n 1, 1) := by decide +kernel
theorem d_Raw_setRegister_5 : decode b_Raw_setRegister 5 = .ok (.bipush 32, 2) := by decide +kernel
theorem d_Raw_setRegister_7 : decode b_Raw_setRegister 7 = .ok (.if_icmp .ge 10, 3) := by decide +kernel
theorem d_Raw_setRegister_10 : decode b_Raw_setRegister 10 = .ok (.aload_n 0, 1) := by decide +kernel
theorem d_Raw_setRegister_11 : decode b_Raw_setRegister 11 = .ok (.getfield 9, 3) := by decide +kernel
theorem d_Raw_setRegister_14 : decode b_Raw_setRegister 14 = .ok (.iload_n 1, 1) := by decide +kernel
theorem d_Raw_setRegister_15 : decode b_Raw_setRegister 15 = .ok (.iload_n 2, 1) := by decide +kernel
theorem d_Raw_setRegister_16 : decode b_Raw_setRegister 16 = .ok (.iastore, 1) := by decide +kernel
theorem d_Raw_setRegister_17 : decode b_Raw_setRegister 17 = .ok (.return_, 1) := by decide +kernel
theorem q_Raw_setRegister : px_y y_Raw_setRegister 2 := by unfold px_y; decide +kernel
set_option maxHeartbeats 4000000 in
set_option maxRecDepth 100000 in
theorem c_Raw_setRegister (l : Launch) (D : va_G) (cs : Nat → ClassId) (h : Nat) (r : Nat → Nat) (g : Nat → Nat → Option Nat) (o2 : Option Nat) (o4 : Option Nat) (f : Nat → Int32) (a : Nat → Nat → Int32) (p0 p1 : Int32)   : MetV l y_Raw_setRegister b_Raw_setRegister 3 D cs 0 0 (0) (0) [.ref h, .int p0, .int p1] [wd_Raw cs h r (fun k => if k = 2 then o2 else if k = 4 then o4 else none) f a g] (fun _ => True) (fun ps => ∃ (f' : Nat → Int32) (a' : Nat → Nat → Int32), (ps = [wd_Raw cs h r (fun k => if k = 2 then o2 else if k = 4 then o4 else none) f' a' g]) ∧ ((f' 3).toInt = (f 3).toInt) ∧ ((f' 7).toInt = (f 7).toInt) ∧ ((f' 8).toInt = (f 8).toInt) ∧ ((f' 10).toInt = (f 10).toInt) ∧ ((f' 13).toInt = (f 13).toInt) ∧ ((f' 14).toInt = (f 14).toInt) ∧ ((f' 11).toInt = (f 11).toInt)) := by
  refine px_enter (by decide) (Nat.le_of_ble_eq_true rfl) ?_
  intro p e s m below meth c A ls hAe S hr hlk hnm hA hT hX hw hl
  replace hl : lv_has ls 3 [(0, .ref h), (1, .int p0), (2, .int p1)] := hl
  have lp0 := Int32.le_toInt p0
  have up0 := Int32.toInt_lt p0
  have lp1 := Int32.le_toInt p1
  have up1 := Int32.toInt_lt p1
  have cst32 : (32 : Int32).toInt = 32 := rfl
  refine lv_iload_n S.x S.b d_Raw_setRegister_0 rfl (lv_at hl 1 rfl) ?_
  refine lv_if_le (tgt := 17) S.x S.b d_Raw_setRegister_1 (by decide) (fun c1 => ?_) (fun c1 => ?_)
  · have nc1 : p0.toInt ≤ (0 : Int) := (i_le (x := p0) (y := 0)).mp c1
    exact px_vret S hr hlk hAe hw (Nat.le_of_ble_eq_true rfl) (Nat.le_of_ble_eq_true rfl) (⟨f, a, rfl, (show (f 3).toInt = (f 3).toInt from rfl), (show (f 7).toInt = (f 7).toInt from rfl), (show (f 8).toInt = (f 8).toInt from rfl), (show (f 10).toInt = (f 10).toInt from rfl), (show (f 13).toInt = (f 13).toInt from rfl), (show (f 14).toInt = (f 14).toInt from rfl), (show (f 11).toInt = (f 11).toInt from rfl)⟩) d_Raw_setRegister_17
  · have nc1 : ¬ p0.toInt ≤ (0 : Int) := mt (i_le (x := p0) (y := 0)).mpr c1
    refine lv_iload_n S.x S.b d_Raw_setRegister_4 rfl (lv_at hl 1 rfl) ?_
    refine lv_bipush (v := 32) S.x S.b d_Raw_setRegister_5 (by decide) ?_
    refine lv_icmp_ge (tgt := 17) S.x S.b d_Raw_setRegister_7 (by decide) (fun c2 => ?_) (fun c2 => ?_)
    · have nc2 : (32 : Int) ≤ p0.toInt := (i_le (x := 32) (y := p0)).mp c2
      exact px_vret S hr hlk hAe hw (Nat.le_of_ble_eq_true rfl) (Nat.le_of_ble_eq_true rfl) (⟨f, a, rfl, (show (f 3).toInt = (f 3).toInt from rfl), (show (f 7).toInt = (f 7).toInt from rfl), (show (f 8).toInt = (f 8).toInt from rfl), (show (f 10).toInt = (f 10).toInt from rfl), (show (f 13).toInt = (f 13).toInt from rfl), (show (f 14).toInt = (f 14).toInt from rfl), (show (f 11).toInt = (f 11).toInt from rfl)⟩) d_Raw_setRegister_17
    · have nc2 : ¬ (32 : Int) ≤ p0.toInt := mt (i_le (x := 32) (y := p0)).mpr c2
      refine lv_aload_n S.x S.b d_Raw_setRegister_10 rfl (lv_at hl 0 rfl) ?_
      refine px_get S k_Raw hT hw 0 0 0 (v := .ref (r 0)) rfl rfl rfl (by decide) m6_124 d_Raw_setRegister_11 ?_
      refine lv_iload_n S.x S.b d_Raw_setRegister_14 rfl (lv_at hl 1 rfl) ?_
      refine lv_iload_n S.x S.b d_Raw_setRegister_15 rfl (lv_at hl 2 rfl) ?_
      refine px_iast S hT hw 0 1 (n := 32) (f := (a 0)) (x := p0) (y := p1) rfl rfl (vp_in_iff.mpr (by constructor <;> omega)) d_Raw_setRegister_16 (w' := wd_Raw cs h r (fun k => if k = 2 then o2 else if k = 4 then o4 else none) f (va_up a 0 (upd (a 0) p0.toNatClampNeg p1)) g) (ps' := [wd_Raw cs h r (fun k => if k = 2 then o2 else if k = 4 then o4 else none) f (va_up a 0 (upd (a 0) p0.toNatClampNeg p1)) g]) rfl rfl (fun H locs hw => ?_)
      exact px_vret S hr hlk hAe hw (Nat.le_of_ble_eq_true rfl) (Nat.le_of_ble_eq_true rfl) (⟨f, (va_up a 0 (upd (a 0) p0.toNatClampNeg p1)), rfl, (show (f 3).toInt = (f 3).toInt from rfl), (show (f 7).toInt = (f 7).toInt from rfl), (show (f 8).toInt = (f 8).toInt from rfl), (show (f 10).toInt = (f 10).toInt from rfl), (show (f 13).toInt = (f 13).toInt from rfl), (show (f 14).toInt = (f 14).toInt from rfl), (show (f 11).toInt = (f 11).toInt from rfl)⟩) d_Raw_setRegister_17
abbrev b_Raw_below : ByteArray := prog_8_method_19_code
def y_Raw_below : MethodName := ⟨"HomeSystem$RawProcess", "below", "(II)Z"⟩
theorem d_Raw_below_0 : decode b_Raw_below 0 = .ok (.iload_n 0, 1) := by decide +kernel
theorem d_Raw_below_1 : decode b_Raw_below 1 = .ok (.i2l, 1) := by decide +kernel
theorem d_Raw_below_2 : decode b_Raw_below 2 = .ok (.ldc2_w 144, 3) := by decide +kernel
theorem d_Raw_below_5 : decode b_Raw_below 5 = .ok (.land, 1) := by decide +kernel
theorem d_Raw_below_6 : decode b_Raw_below 6 = .ok (.iload_n 1, 1) := by decide +kernel
theorem d_Raw_below_7 : decode b_Raw_below 7 = .ok (.i2l, 1) := by decide +kernel
theorem d_Raw_below_8 : decode b_Raw_below 8 = .ok (.ldc2_w 144, 3) := by decide +kernel
theorem d_Raw_below_11 : decode b_Raw_below 11 = .ok (.land, 1) := by decide +kernel
theorem d_Raw_below_12 : decode b_Raw_below 12 = .ok (.lcmp, 1) := by decide +kernel
theorem d_Raw_below_13 : decode b_Raw_below 13 = .ok (.ifCond .ge 7, 3) := by decide +kernel
theorem d_Raw_below_16 : decode b_Raw_below 16 = .ok (.iconst 1, 1) := by decide +kernel
theorem d_Raw_below_17 : decode b_Raw_below 17 = .ok (.goto 4, 3) := by decide +kernel
theorem d_Raw_below_20 : decode b_Raw_below 20 = .ok (.iconst 0, 1) := by decide +kernel
theorem d_Raw_below_21 : decode b_Raw_below 21 = .ok (.ireturn, 1) := by decide +kernel
theorem q_Raw_below : px_y y_Raw_below 2 := by unfold px_y; decide +kernel
set_option maxHeartbeats 4000000 in
set_option maxRecDepth 100000 in
theorem c_Raw_below (l : Launch) (D : va_G) (cs : Nat → ClassId)  (p0 p1 : Int32)   : MetI l y_Raw_below b_Raw_below 2 (.boolean) D cs 0 0 (0) (0) [.int p0, .int p1] [] (fun _ => True) (fun v ps => (ps = []) ∧ (v = 0 ∨ v = 1)) := by
  refine px_enter (by decide) (Nat.le_of_ble_eq_true rfl) ?_
  intro p e s m below meth c A ls hAe S hr hlk hnm hA hT hX hw hl
  replace hl : lv_has ls 2 [(0, .int p0), (1, .int p1)] := hl
  have lp0 := Int32.le_toInt p0
  have up0 := Int32.toInt_lt p0
  have lp1 := Int32.le_toInt p1
  have up1 := Int32.toInt_lt p1
  have cst0 : (0 : Int32).toInt = 0 := rfl
  have cst1 : (1 : Int32).toInt = 1 := rfl
  refine lv_iload_n S.x S.b d_Raw_below_0 rfl (lv_at hl 0 rfl) ?_
  refine lv_i2l S.x S.b d_Raw_below_1 rfl ?_
  refine lv_ldc2 (v := 4294967295) S.x S.b S.own (S.w m8_204) d_Raw_below_2 ?_
  refine lv_land S.x S.b d_Raw_below_5 ?_
  refine lv_topl (fun z1 ez1 => ?_)
  refine lv_iload_n S.x S.b d_Raw_below_6 rfl (lv_at hl 1 rfl) ?_
  refine lv_i2l S.x S.b d_Raw_below_7 rfl ?_
  refine lv_ldc2 (v := 4294967295) S.x S.b S.own (S.w m8_204) d_Raw_below_8 ?_
  refine lv_land S.x S.b d_Raw_below_11 ?_
  refine lv_topl (fun z2 ez2 => ?_)
  refine W.lcmp S.x S.b d_Raw_below_12 ?_
  refine lv_topi (fun z3 ez3 => ?_)
  have lz3 := Int32.le_toInt z3
  have uz3 := Int32.toInt_lt z3
  refine lv_if_ge (tgt := 20) S.x S.b d_Raw_below_13 (by decide) (fun c4 => ?_) (fun c4 => ?_)
  · have nc4 : (0 : Int) ≤ z3.toInt := (i_le (x := 0) (y := z3)).mp c4
    refine lv_iconst (v := 0) S.x S.b d_Raw_below_20 (by decide) ?_
    exact px_iret (v := 0) S hr rfl hlk hAe hw (Nat.le_of_ble_eq_true rfl) (Nat.le_of_ble_eq_true rfl) (⟨rfl, (show (0 : Int32) = 0 ∨ (0 : Int32) = 1 from by first | exact Or.inl rfl | exact Or.inr rfl | exact z_or (by omega))⟩) d_Raw_below_21
  · have nc4 : ¬ (0 : Int) ≤ z3.toInt := mt (i_le (x := 0) (y := z3)).mpr c4
    refine lv_iconst (v := 1) S.x S.b d_Raw_below_16 (by decide) ?_
    refine lv_goto (tgt := 21) S.x S.b d_Raw_below_17 (by decide) ?_
    exact px_iret (v := 1) S hr rfl hlk hAe hw (Nat.le_of_ble_eq_true rfl) (Nat.le_of_ble_eq_true rfl) (⟨rfl, (show (1 : Int32) = 0 ∨ (1 : Int32) = 1 from by first | exact Or.inl rfl | exact Or.inr rfl | exact z_or (by omega))⟩) d_Raw_below_21
abbrev b_Raw_isAligned : ByteArray := prog_8_method_20_code
def y_Raw_isAligned : MethodName := ⟨"HomeSystem$RawProcess", "isAligned", "(II)Z"⟩
theorem d_Raw_isAligned_0 : decode b_Raw_isAligned 0 = .ok (.iload_n 0, 1) := by decide +kernel
theorem d_Raw_isAligned_1 : decode b_Raw_isAligned 1 = .ok (.iload_n 1, 1) := by decide +kernel
theorem d_Raw_isAligned_2 : decode b_Raw_isAligned 2 = .ok (.iconst 1, 1) := by decide +kernel
theorem d_Raw_isAligned_3 : decode b_Raw_isAligned 3 = .ok (.isub, 1) := by decide +kernel
theorem d_Raw_isAligned_4 : decode b_Raw_isAligned 4 = .ok (.iand, 1) := by decide +kernel
theorem d_Raw_isAligned_5 : decode b_Raw_isAligned 5 = .ok (.ifCond .ne 7, 3) := by decide +kernel
theorem d_Raw_isAligned_8 : decode b_Raw_isAligned 8 = .ok (.iconst 1, 1) := by decide +kernel
theorem d_Raw_isAligned_9 : decode b_Raw_isAligned 9 = .ok (.goto 4, 3) := by decide +kernel
theorem d_Raw_isAligned_12 : decode b_Raw_isAligned 12 = .ok (.iconst 0, 1) := by decide +kernel
theorem d_Raw_isAligned_13 : decode b_Raw_isAligned 13 = .ok (.ireturn, 1) := by decide +kernel
theorem q_Raw_isAligned : px_y y_Raw_isAligned 2 := by unfold px_y; decide +kernel
set_option maxHeartbeats 4000000 in
set_option maxRecDepth 100000 in
theorem c_Raw_isAligned (l : Launch) (D : va_G) (cs : Nat → ClassId)  (p0 p1 : Int32)   : MetI l y_Raw_isAligned b_Raw_isAligned 2 (.boolean) D cs 0 0 (0) (0) [.int p0, .int p1] [] (fun _ => True) (fun v ps => (ps = []) ∧ (v = 0 ∨ v = 1)) := by
  refine px_enter (by decide) (Nat.le_of_ble_eq_true rfl) ?_
  intro p e s m below meth c A ls hAe S hr hlk hnm hA hT hX hw hl
  replace hl : lv_has ls 2 [(0, .int p0), (1, .int p1)] := hl
  have lp0 := Int32.le_toInt p0
  have up0 := Int32.toInt_lt p0
  have lp1 := Int32.le_toInt p1
  have up1 := Int32.toInt_lt p1
  have cst0 : (0 : Int32).toInt = 0 := rfl
  have cst1 : (1 : Int32).toInt = 1 := rfl
  refine lv_iload_n S.x S.b d_Raw_isAligned_0 rfl (lv_at hl 0 rfl) ?_
  refine lv_iload_n S.x S.b d_Raw_isAligned_1 rfl (lv_at hl 1 rfl) ?_
  refine lv_iconst (v := 1) S.x S.b d_Raw_isAligned_2 (by decide) ?_
  refine lv_isub S.x S.b d_Raw_isAligned_3 ?_
  refine lv_topi (fun z1 ez1 => ?_)
  have tz1 : z1.toInt = (p1.toInt - (1 : Int) + 2147483648) % 4294967296 - 2147483648 := by rw [ez1]; exact i_sub p1 1
  have lz1 := Int32.le_toInt z1
  have uz1 := Int32.toInt_lt z1
  refine lv_iand S.x S.b d_Raw_isAligned_4 ?_
  refine lv_topi (fun z2 ez2 => ?_)
  have lz2 := Int32.le_toInt z2
  have uz2 := Int32.toInt_lt z2
  refine lv_if_ne (tgt := 12) S.x S.b d_Raw_isAligned_5 (by decide) (fun c3 => ?_) (fun c3 => ?_)
  · have nc3 : ¬ z2.toInt = (0 : Int) := mt (i_eq (x := z2) (y := 0)).mpr c3
    refine lv_iconst (v := 0) S.x S.b d_Raw_isAligned_12 (by decide) ?_
    exact px_iret (v := 0) S hr rfl hlk hAe hw (Nat.le_of_ble_eq_true rfl) (Nat.le_of_ble_eq_true rfl) (⟨rfl, (show (0 : Int32) = 0 ∨ (0 : Int32) = 1 from by first | exact Or.inl rfl | exact Or.inr rfl | exact z_or (by omega))⟩) d_Raw_isAligned_13
  · have nc3 : z2.toInt = (0 : Int) := (i_eq (x := z2) (y := 0)).mp c3
    refine lv_iconst (v := 1) S.x S.b d_Raw_isAligned_8 (by decide) ?_
    refine lv_goto (tgt := 13) S.x S.b d_Raw_isAligned_9 (by decide) ?_
    exact px_iret (v := 1) S hr rfl hlk hAe hw (Nat.le_of_ble_eq_true rfl) (Nat.le_of_ble_eq_true rfl) (⟨rfl, (show (1 : Int32) = 0 ∨ (1 : Int32) = 1 from by first | exact Or.inl rfl | exact Or.inr rfl | exact z_or (by omega))⟩) d_Raw_isAligned_13
abbrev b_Raw_jumpDistance : ByteArray := prog_8_method_14_code
def y_Raw_jumpDistance : MethodName := ⟨"HomeSystem$RawProcess", "jumpDistance", "(I)I"⟩
theorem d_Raw_jumpDistance_0 : decode b_Raw_jumpDistance 0 = .ok (.iload_n 0, 1) := by decide +kernel
theorem d_Raw_jumpDistance_1 : decode b_Raw_jumpDistance 1 = .ok (.bipush 31, 2) := by decide +kernel
theorem d_Raw_jumpDistance_3 : decode b_Raw_jumpDistance 3 = .ok (.ishr, 1) := by decide +kernel
theorem d_Raw_jumpDistance_4 : decode b_Raw_jumpDistance 4 = .ok (.bipush 20, 2) := by decide +kernel
theorem d_Raw_jumpDistance_6 : decode b_Raw_jumpDistance 6 = .ok (.ishl, 1) := by decide +kernel
theorem d_Raw_jumpDistance_7 : decode b_Raw_jumpDistance 7 = .ok (.iload_n 0, 1) := by decide +kernel
theorem d_Raw_jumpDistance_8 : decode b_Raw_jumpDistance 8 = .ok (.ldc 139, 2) := by decide +kernel
theorem d_Raw_jumpDistance_10 : decode b_Raw_jumpDistance 10 = .ok (.iand, 1) := by decide +kernel
theorem d_Raw_jumpDistance_11 : decode b_Raw_jumpDistance 11 = .ok (.ior, 1) := by decide +kernel
theorem d_Raw_jumpDistance_12 : decode b_Raw_jumpDistance 12 = .ok (.iload_n 0, 1) := by decide +kernel
theorem d_Raw_jumpDistance_13 : decode b_Raw_jumpDistance 13 = .ok (.bipush 20, 2) := by decide +kernel
theorem d_Raw_jumpDistance_15 : decode b_Raw_jumpDistance 15 = .ok (.iushr, 1) := by decide +kernel
theorem d_Raw_jumpDistance_16 : decode b_Raw_jumpDistance 16 = .ok (.iconst 1, 1) := by decide +kernel
theorem d_Raw_jumpDistance_17 : decode b_Raw_jumpDistance 17 = .ok (.iand, 1) := by decide +kernel
theorem d_Raw_jumpDistance_18 : decode b_Raw_jumpDistance 18 = .ok (.bipush 11, 2) := by decide +kernel
theorem d_Raw_jumpDistance_20 : decode b_Raw_jumpDistance 20 = .ok (.ishl, 1) := by decide +kernel
theorem d_Raw_jumpDistance_21 : decode b_Raw_jumpDistance 21 = .ok (.ior, 1) := by decide +kernel
theorem d_Raw_jumpDistance_22 : decode b_Raw_jumpDistance 22 = .ok (.iload_n 0, 1) := by decide +kernel
theorem d_Raw_jumpDistance_23 : decode b_Raw_jumpDistance 23 = .ok (.bipush 21, 2) := by decide +kernel
theorem d_Raw_jumpDistance_25 : decode b_Raw_jumpDistance 25 = .ok (.iushr, 1) := by decide +kernel
theorem d_Raw_jumpDistance_26 : decode b_Raw_jumpDistance 26 = .ok (.sipush 1023, 3) := by decide +kernel
theorem d_Raw_jumpDistance_29 : decode b_Raw_jumpDistance 29 = .ok (.iand, 1) := by decide +kernel
theorem d_Raw_jumpDistance_30 : decode b_Raw_jumpDistance 30 = .ok (.iconst 1, 1) := by decide +kernel
theorem d_Raw_jumpDistance_31 : decode b_Raw_jumpDistance 31 = .ok (.ishl, 1) := by decide +kernel
theorem d_Raw_jumpDistance_32 : decode b_Raw_jumpDistance 32 = .ok (.ior, 1) := by decide +kernel
theorem d_Raw_jumpDistance_33 : decode b_Raw_jumpDistance 33 = .ok (.ireturn, 1) := by decide +kernel
theorem q_Raw_jumpDistance : px_y y_Raw_jumpDistance 1 := by unfold px_y; decide +kernel
set_option maxHeartbeats 4000000 in
set_option maxRecDepth 100000 in
theorem c_Raw_jumpDistance (l : Launch) (D : va_G) (cs : Nat → ClassId)  (p0 : Int32)   : MetI l y_Raw_jumpDistance b_Raw_jumpDistance 1 (.int) D cs 0 0 (0) (0) [.int p0] [] (fun _ => True) (fun v ps => (ps = [])) := by
  refine px_enter (by decide) (Nat.le_of_ble_eq_true rfl) ?_
  intro p e s m below meth c A ls hAe S hr hlk hnm hA hT hX hw hl
  replace hl : lv_has ls 1 [(0, .int p0)] := hl
  have lp0 := Int32.le_toInt p0
  have up0 := Int32.toInt_lt p0
  have cst1 : (1 : Int32).toInt = 1 := rfl
  have cst11 : (11 : Int32).toInt = 11 := rfl
  have cst20 : (20 : Int32).toInt = 20 := rfl
  have cst21 : (21 : Int32).toInt = 21 := rfl
  have cst31 : (31 : Int32).toInt = 31 := rfl
  have cst1023 : (1023 : Int32).toInt = 1023 := rfl
  refine lv_iload_n S.x S.b d_Raw_jumpDistance_0 rfl (lv_at hl 0 rfl) ?_
  refine lv_bipush (v := 31) S.x S.b d_Raw_jumpDistance_1 (by decide) ?_
  refine lv_ishr S.x S.b d_Raw_jumpDistance_3 ?_
  refine lv_topi (fun z1 ez1 => ?_)
  have tz1 : z1.toInt = p0.toInt / 2147483648 := by rw [ez1]; exact i_shr p0 31 (k := 31) (d := 2147483648) (by decide) (by decide)
  have lz1 := Int32.le_toInt z1
  have uz1 := Int32.toInt_lt z1
  refine lv_bipush (v := 20) S.x S.b d_Raw_jumpDistance_4 (by decide) ?_
  refine lv_ishl S.x S.b d_Raw_jumpDistance_6 ?_
  refine lv_topi (fun z2 ez2 => ?_)
  have lz2 := Int32.le_toInt z2
  have uz2 := Int32.toInt_lt z2
  have tz2 : 0 ≤ z1.toInt → z1.toInt * 1048576 < 2147483648 → z2.toInt = z1.toInt * 1048576 := by rw [ez2]; exact i_shl z1 20 (k := 20) (d := 1048576) (by decide) (by decide)
  refine lv_iload_n S.x S.b d_Raw_jumpDistance_7 rfl (lv_at hl 0 rfl) ?_
  refine lv_ldc (v := 1044480) S.x S.b S.own (S.w m8_185) d_Raw_jumpDistance_8 ?_
  refine lv_iand S.x S.b d_Raw_jumpDistance_10 ?_
  refine lv_topi (fun z3 ez3 => ?_)
  have lz3 := Int32.le_toInt z3
  have uz3 := Int32.toInt_lt z3
  refine lv_ior S.x S.b d_Raw_jumpDistance_11 ?_
  refine lv_topi (fun z4 ez4 => ?_)
  have lz4 := Int32.le_toInt z4
  have uz4 := Int32.toInt_lt z4
  refine lv_iload_n S.x S.b d_Raw_jumpDistance_12 rfl (lv_at hl 0 rfl) ?_
  refine lv_bipush (v := 20) S.x S.b d_Raw_jumpDistance_13 (by decide) ?_
  refine lv_iushr S.x S.b d_Raw_jumpDistance_15 rfl ?_
  refine lv_topi (fun z5 ez5 => ?_)
  have lz5 := Int32.le_toInt z5
  have uz5 := Int32.toInt_lt z5
  refine lv_iconst (v := 1) S.x S.b d_Raw_jumpDistance_16 (by decide) ?_
  refine lv_iand S.x S.b d_Raw_jumpDistance_17 ?_
  refine lv_topi (fun z6 ez6 => ?_)
  have lz6 := Int32.le_toInt z6
  have uz6 := Int32.toInt_lt z6
  have bz6 := i_andm z5 (m := 1) 1 (by decide) (by decide)
  rw [← ez6] at bz6
  have wz6 : 0 ≤ z6.toInt ∧ z6.toInt ≤ 1 := by simp only [Nat.reducePow, Int.reducePow] at bz6; omega
  refine lv_bipush (v := 11) S.x S.b d_Raw_jumpDistance_18 (by decide) ?_
  refine lv_ishl S.x S.b d_Raw_jumpDistance_20 ?_
  refine lv_topi (fun z7 ez7 => ?_)
  have lz7 := Int32.le_toInt z7
  have uz7 := Int32.toInt_lt z7
  have tz7 : 0 ≤ z6.toInt → z6.toInt * 2048 < 2147483648 → z7.toInt = z6.toInt * 2048 := by rw [ez7]; exact i_shl z6 11 (k := 11) (d := 2048) (by decide) (by decide)
  refine lv_ior S.x S.b d_Raw_jumpDistance_21 ?_
  refine lv_topi (fun z8 ez8 => ?_)
  have lz8 := Int32.le_toInt z8
  have uz8 := Int32.toInt_lt z8
  refine lv_iload_n S.x S.b d_Raw_jumpDistance_22 rfl (lv_at hl 0 rfl) ?_
  refine lv_bipush (v := 21) S.x S.b d_Raw_jumpDistance_23 (by decide) ?_
  refine lv_iushr S.x S.b d_Raw_jumpDistance_25 rfl ?_
  refine lv_topi (fun z9 ez9 => ?_)
  have lz9 := Int32.le_toInt z9
  have uz9 := Int32.toInt_lt z9
  refine lv_sipush (v := 1023) S.x S.b d_Raw_jumpDistance_26 (by decide) ?_
  refine lv_iand S.x S.b d_Raw_jumpDistance_29 ?_
  refine lv_topi (fun z10 ez10 => ?_)
  have lz10 := Int32.le_toInt z10
  have uz10 := Int32.toInt_lt z10
  have bz10 := i_andm z9 (m := 1023) 10 (by decide) (by decide)
  rw [← ez10] at bz10
  have wz10 : 0 ≤ z10.toInt ∧ z10.toInt ≤ 1023 := by simp only [Nat.reducePow, Int.reducePow] at bz10; omega
  refine lv_iconst (v := 1) S.x S.b d_Raw_jumpDistance_30 (by decide) ?_
  refine lv_ishl S.x S.b d_Raw_jumpDistance_31 ?_
  refine lv_topi (fun z11 ez11 => ?_)
  have lz11 := Int32.le_toInt z11
  have uz11 := Int32.toInt_lt z11
  have tz11 : 0 ≤ z10.toInt → z10.toInt * 2 < 2147483648 → z11.toInt = z10.toInt * 2 := by rw [ez11]; exact i_shl z10 1 (k := 1) (d := 2) (by decide) (by decide)
  refine lv_ior S.x S.b d_Raw_jumpDistance_32 ?_
  refine lv_topi (fun z12 ez12 => ?_)
  have lz12 := Int32.le_toInt z12
  have uz12 := Int32.toInt_lt z12
  exact px_iret (v := z12) S hr rfl hlk hAe hw (Nat.le_of_ble_eq_true rfl) (Nat.le_of_ble_eq_true rfl) (rfl) d_Raw_jumpDistance_33
abbrev b_Raw_branchDistance : ByteArray := prog_8_method_15_code
def y_Raw_branchDistance : MethodName := ⟨"HomeSystem$RawProcess", "branchDistance", "(I)I"⟩
theorem d_Raw_branchDistance_0 : decode b_Raw_branchDistance 0 = .ok (.iload_n 0, 1) := by decide +kernel
theorem d_Raw_branchDistance_1 : decode b_Raw_branchDistance 1 = .ok (.bipush 31, 2) := by decide +kernel
theorem d_Raw_branchDistance_3 : decode b_Raw_branchDistance 3 = .ok (.ishr, 1) := by decide +kernel
theorem d_Raw_branchDistance_4 : decode b_Raw_branchDistance 4 = .ok (.bipush 12, 2) := by decide +kernel
theorem d_Raw_branchDistance_6 : decode b_Raw_branchDistance 6 = .ok (.ishl, 1) := by decide +kernel
theorem d_Raw_branchDistance_7 : decode b_Raw_branchDistance 7 = .ok (.iload_n 0, 1) := by decide +kernel
theorem d_Raw_branchDistance_8 : decode b_Raw_branchDistance 8 = .ok (.bipush 7, 2) := by decide +kernel
theorem d_Raw_branchDistance_10 : decode b_Raw_branchDistance 10 = .ok (.iushr, 1) := by decide +kernel
theorem d_Raw_branchDistance_11 : decode b_Raw_branchDistance 11 = .ok (.iconst 1, 1) := by decide +kernel
theorem d_Raw_branchDistance_12 : decode b_Raw_branchDistance 12 = .ok (.iand, 1) := by decide +kernel
theorem d_Raw_branchDistance_13 : decode b_Raw_branchDistance 13 = .ok (.bipush 11, 2) := by decide +kernel
theorem d_Raw_branchDistance_15 : decode b_Raw_branchDistance 15 = .ok (.ishl, 1) := by decide +kernel
theorem d_Raw_branchDistance_16 : decode b_Raw_branchDistance 16 = .ok (.ior, 1) := by decide +kernel
theorem d_Raw_branchDistance_17 : decode b_Raw_branchDistance 17 = .ok (.iload_n 0, 1) := by decide +kernel
theorem d_Raw_branchDistance_18 : decode b_Raw_branchDistance 18 = .ok (.bipush 25, 2) := by decide +kernel
theorem d_Raw_branchDistance_20 : decode b_Raw_branchDistance 20 = .ok (.iushr, 1) := by decide +kernel
theorem d_Raw_branchDistance_21 : decode b_Raw_branchDistance 21 = .ok (.bipush 63, 2) := by decide +kernel
theorem d_Raw_branchDistance_23 : decode b_Raw_branchDistance 23 = .ok (.iand, 1) := by decide +kernel
theorem d_Raw_branchDistance_24 : decode b_Raw_branchDistance 24 = .ok (.iconst 5, 1) := by decide +kernel
theorem d_Raw_branchDistance_25 : decode b_Raw_branchDistance 25 = .ok (.ishl, 1) := by decide +kernel
theorem d_Raw_branchDistance_26 : decode b_Raw_branchDistance 26 = .ok (.ior, 1) := by decide +kernel
theorem d_Raw_branchDistance_27 : decode b_Raw_branchDistance 27 = .ok (.iload_n 0, 1) := by decide +kernel
theorem d_Raw_branchDistance_28 : decode b_Raw_branchDistance 28 = .ok (.bipush 8, 2) := by decide +kernel
theorem d_Raw_branchDistance_30 : decode b_Raw_branchDistance 30 = .ok (.iushr, 1) := by decide +kernel
theorem d_Raw_branchDistance_31 : decode b_Raw_branchDistance 31 = .ok (.bipush 15, 2) := by decide +kernel
theorem d_Raw_branchDistance_33 : decode b_Raw_branchDistance 33 = .ok (.iand, 1) := by decide +kernel
theorem d_Raw_branchDistance_34 : decode b_Raw_branchDistance 34 = .ok (.iconst 1, 1) := by decide +kernel
theorem d_Raw_branchDistance_35 : decode b_Raw_branchDistance 35 = .ok (.ishl, 1) := by decide +kernel
theorem d_Raw_branchDistance_36 : decode b_Raw_branchDistance 36 = .ok (.ior, 1) := by decide +kernel
theorem d_Raw_branchDistance_37 : decode b_Raw_branchDistance 37 = .ok (.ireturn, 1) := by decide +kernel
theorem q_Raw_branchDistance : px_y y_Raw_branchDistance 1 := by unfold px_y; decide +kernel
set_option maxHeartbeats 4000000 in
set_option maxRecDepth 100000 in
theorem c_Raw_branchDistance (l : Launch) (D : va_G) (cs : Nat → ClassId)  (p0 : Int32)   : MetI l y_Raw_branchDistance b_Raw_branchDistance 1 (.int) D cs 0 0 (0) (0) [.int p0] [] (fun _ => True) (fun v ps => (ps = [])) := by
  refine px_enter (by decide) (Nat.le_of_ble_eq_true rfl) ?_
  intro p e s m below meth c A ls hAe S hr hlk hnm hA hT hX hw hl
  replace hl : lv_has ls 1 [(0, .int p0)] := hl
  have lp0 := Int32.le_toInt p0
  have up0 := Int32.toInt_lt p0
  have cst1 : (1 : Int32).toInt = 1 := rfl
  have cst5 : (5 : Int32).toInt = 5 := rfl
  have cst7 : (7 : Int32).toInt = 7 := rfl
  have cst8 : (8 : Int32).toInt = 8 := rfl
  have cst11 : (11 : Int32).toInt = 11 := rfl
  have cst12 : (12 : Int32).toInt = 12 := rfl
  have cst15 : (15 : Int32).toInt = 15 := rfl
  have cst25 : (25 : Int32).toInt = 25 := rfl
  have cst31 : (31 : Int32).toInt = 31 := rfl
  have cst63 : (63 : Int32).toInt = 63 := rfl
  refine lv_iload_n S.x S.b d_Raw_branchDistance_0 rfl (lv_at hl 0 rfl) ?_
  refine lv_bipush (v := 31) S.x S.b d_Raw_branchDistance_1 (by decide) ?_
  refine lv_ishr S.x S.b d_Raw_branchDistance_3 ?_
  refine lv_topi (fun z1 ez1 => ?_)
  have tz1 : z1.toInt = p0.toInt / 2147483648 := by rw [ez1]; exact i_shr p0 31 (k := 31) (d := 2147483648) (by decide) (by decide)
  have lz1 := Int32.le_toInt z1
  have uz1 := Int32.toInt_lt z1
  refine lv_bipush (v := 12) S.x S.b d_Raw_branchDistance_4 (by decide) ?_
  refine lv_ishl S.x S.b d_Raw_branchDistance_6 ?_
  refine lv_topi (fun z2 ez2 => ?_)
  have lz2 := Int32.le_toInt z2
  have uz2 := Int32.toInt_lt z2
  have tz2 : 0 ≤ z1.toInt → z1.toInt * 4096 < 2147483648 → z2.toInt = z1.toInt * 4096 := by rw [ez2]; exact i_shl z1 12 (k := 12) (d := 4096) (by decide) (by decide)
  refine lv_iload_n S.x S.b d_Raw_branchDistance_7 rfl (lv_at hl 0 rfl) ?_
  refine lv_bipush (v := 7) S.x S.b d_Raw_branchDistance_8 (by decide) ?_
  refine lv_iushr S.x S.b d_Raw_branchDistance_10 rfl ?_
  refine lv_topi (fun z3 ez3 => ?_)
  have lz3 := Int32.le_toInt z3
  have uz3 := Int32.toInt_lt z3
  refine lv_iconst (v := 1) S.x S.b d_Raw_branchDistance_11 (by decide) ?_
  refine lv_iand S.x S.b d_Raw_branchDistance_12 ?_
  refine lv_topi (fun z4 ez4 => ?_)
  have lz4 := Int32.le_toInt z4
  have uz4 := Int32.toInt_lt z4
  have bz4 := i_andm z3 (m := 1) 1 (by decide) (by decide)
  rw [← ez4] at bz4
  have wz4 : 0 ≤ z4.toInt ∧ z4.toInt ≤ 1 := by simp only [Nat.reducePow, Int.reducePow] at bz4; omega
  refine lv_bipush (v := 11) S.x S.b d_Raw_branchDistance_13 (by decide) ?_
  refine lv_ishl S.x S.b d_Raw_branchDistance_15 ?_
  refine lv_topi (fun z5 ez5 => ?_)
  have lz5 := Int32.le_toInt z5
  have uz5 := Int32.toInt_lt z5
  have tz5 : 0 ≤ z4.toInt → z4.toInt * 2048 < 2147483648 → z5.toInt = z4.toInt * 2048 := by rw [ez5]; exact i_shl z4 11 (k := 11) (d := 2048) (by decide) (by decide)
  refine lv_ior S.x S.b d_Raw_branchDistance_16 ?_
  refine lv_topi (fun z6 ez6 => ?_)
  have lz6 := Int32.le_toInt z6
  have uz6 := Int32.toInt_lt z6
  refine lv_iload_n S.x S.b d_Raw_branchDistance_17 rfl (lv_at hl 0 rfl) ?_
  refine lv_bipush (v := 25) S.x S.b d_Raw_branchDistance_18 (by decide) ?_
  refine lv_iushr S.x S.b d_Raw_branchDistance_20 rfl ?_
  refine lv_topi (fun z7 ez7 => ?_)
  have lz7 := Int32.le_toInt z7
  have uz7 := Int32.toInt_lt z7
  refine lv_bipush (v := 63) S.x S.b d_Raw_branchDistance_21 (by decide) ?_
  refine lv_iand S.x S.b d_Raw_branchDistance_23 ?_
  refine lv_topi (fun z8 ez8 => ?_)
  have lz8 := Int32.le_toInt z8
  have uz8 := Int32.toInt_lt z8
  have bz8 := i_andm z7 (m := 63) 6 (by decide) (by decide)
  rw [← ez8] at bz8
  have wz8 : 0 ≤ z8.toInt ∧ z8.toInt ≤ 63 := by simp only [Nat.reducePow, Int.reducePow] at bz8; omega
  refine lv_iconst (v := 5) S.x S.b d_Raw_branchDistance_24 (by decide) ?_
  refine lv_ishl S.x S.b d_Raw_branchDistance_25 ?_
  refine lv_topi (fun z9 ez9 => ?_)
  have lz9 := Int32.le_toInt z9
  have uz9 := Int32.toInt_lt z9
  have tz9 : 0 ≤ z8.toInt → z8.toInt * 32 < 2147483648 → z9.toInt = z8.toInt * 32 := by rw [ez9]; exact i_shl z8 5 (k := 5) (d := 32) (by decide) (by decide)
  refine lv_ior S.x S.b d_Raw_branchDistance_26 ?_
  refine lv_topi (fun z10 ez10 => ?_)
  have lz10 := Int32.le_toInt z10
  have uz10 := Int32.toInt_lt z10
  refine lv_iload_n S.x S.b d_Raw_branchDistance_27 rfl (lv_at hl 0 rfl) ?_
  refine lv_bipush (v := 8) S.x S.b d_Raw_branchDistance_28 (by decide) ?_
  refine lv_iushr S.x S.b d_Raw_branchDistance_30 rfl ?_
  refine lv_topi (fun z11 ez11 => ?_)
  have lz11 := Int32.le_toInt z11
  have uz11 := Int32.toInt_lt z11
  refine lv_bipush (v := 15) S.x S.b d_Raw_branchDistance_31 (by decide) ?_
  refine lv_iand S.x S.b d_Raw_branchDistance_33 ?_
  refine lv_topi (fun z12 ez12 => ?_)
  have lz12 := Int32.le_toInt z12
  have uz12 := Int32.toInt_lt z12
  have bz12 := i_andm z11 (m := 15) 4 (by decide) (by decide)
  rw [← ez12] at bz12
  have wz12 : 0 ≤ z12.toInt ∧ z12.toInt ≤ 15 := by simp only [Nat.reducePow, Int.reducePow] at bz12; omega
  refine lv_iconst (v := 1) S.x S.b d_Raw_branchDistance_34 (by decide) ?_
  refine lv_ishl S.x S.b d_Raw_branchDistance_35 ?_
  refine lv_topi (fun z13 ez13 => ?_)
  have lz13 := Int32.le_toInt z13
  have uz13 := Int32.toInt_lt z13
  have tz13 : 0 ≤ z12.toInt → z12.toInt * 2 < 2147483648 → z13.toInt = z12.toInt * 2 := by rw [ez13]; exact i_shl z12 1 (k := 1) (d := 2) (by decide) (by decide)
  refine lv_ior S.x S.b d_Raw_branchDistance_36 ?_
  refine lv_topi (fun z14 ez14 => ?_)
  have lz14 := Int32.le_toInt z14
  have uz14 := Int32.toInt_lt z14
  exact px_iret (v := z14) S hr rfl hlk hAe hw (Nat.le_of_ble_eq_true rfl) (Nat.le_of_ble_eq_true rfl) (rfl) d_Raw_branchDistance_37
abbrev b_Raw_basic : ByteArray := prog_8_method_25_code
def y_Raw_basic : MethodName := ⟨"HomeSystem$RawProcess", "basic", "(IIIZ)I"⟩
theorem d_Raw_basic_0 : decode b_Raw_basic 0 = .ok (.iload_n 0, 1) := by decide +kernel
theorem d_Raw_basic_1 : decode b_Raw_basic 1 = .ok (.tableswitch 107 0 6 #[43, 47, 54, 65, 79, 83, 103], 43) := by decide +kernel
theorem d_Raw_basic_44 : decode b_Raw_basic 44 = .ok (.iload_n 1, 1) := by decide +kernel
theorem d_Raw_basic_45 : decode b_Raw_basic 45 = .ok (.iload_n 2, 1) := by decide +kernel
theorem d_Raw_basic_46 : decode b_Raw_basic 46 = .ok (.iadd, 1) := by decide +kernel
theorem d_Raw_basic_47 : decode b_Raw_basic 47 = .ok (.ireturn, 1) := by decide +kernel
theorem d_Raw_basic_48 : decode b_Raw_basic 48 = .ok (.iload_n 1, 1) := by decide +kernel
theorem d_Raw_basic_49 : decode b_Raw_basic 49 = .ok (.iload_n 2, 1) := by decide +kernel
theorem d_Raw_basic_50 : decode b_Raw_basic 50 = .ok (.bipush 31, 2) := by decide +kernel
theorem d_Raw_basic_52 : decode b_Raw_basic 52 = .ok (.iand, 1) := by decide +kernel
theorem d_Raw_basic_53 : decode b_Raw_basic 53 = .ok (.ishl, 1) := by decide +kernel
theorem d_Raw_basic_54 : decode b_Raw_basic 54 = .ok (.ireturn, 1) := by decide +kernel
theorem d_Raw_basic_55 : decode b_Raw_basic 55 = .ok (.iload_n 1, 1) := by decide +kernel
theorem d_Raw_basic_56 : decode b_Raw_basic 56 = .ok (.iload_n 2, 1) := by decide +kernel
theorem d_Raw_basic_57 : decode b_Raw_basic 57 = .ok (.if_icmp .ge 7, 3) := by decide +kernel
theorem d_Raw_basic_60 : decode b_Raw_basic 60 = .ok (.iconst 1, 1) := by decide +kernel
theorem d_Raw_basic_61 : decode b_Raw_basic 61 = .ok (.goto 4, 3) := by decide +kernel
theorem d_Raw_basic_64 : decode b_Raw_basic 64 = .ok (.iconst 0, 1) := by decide +kernel
theorem d_Raw_basic_65 : decode b_Raw_basic 65 = .ok (.ireturn, 1) := by decide +kernel
theorem d_Raw_basic_66 : decode b_Raw_basic 66 = .ok (.iload_n 1, 1) := by decide +kernel
theorem d_Raw_basic_67 : decode b_Raw_basic 67 = .ok (.iload_n 2, 1) := by decide +kernel
theorem d_Raw_basic_68 : decode b_Raw_basic 68 = .ok (.invokestatic 140, 3) := by decide +kernel
theorem d_Raw_basic_71 : decode b_Raw_basic 71 = .ok (.ifCond .eq 7, 3) := by decide +kernel
theorem d_Raw_basic_74 : decode b_Raw_basic 74 = .ok (.iconst 1, 1) := by decide +kernel
theorem d_Raw_basic_75 : decode b_Raw_basic 75 = .ok (.goto 4, 3) := by decide +kernel
theorem d_Raw_basic_78 : decode b_Raw_basic 78 = .ok (.iconst 0, 1) := by decide +kernel
theorem d_Raw_basic_79 : decode b_Raw_basic 79 = .ok (.ireturn, 1) := by decide +kernel
theorem d_Raw_basic_80 : decode b_Raw_basic 80 = .ok (.iload_n 1, 1) := by decide +kernel
theorem d_Raw_basic_81 : decode b_Raw_basic 81 = .ok (.iload_n 2, 1) := by decide +kernel
theorem d_Raw_basic_82 : decode b_Raw_basic 82 = .ok (.ixor, 1) := by decide +kernel
theorem d_Raw_basic_83 : decode b_Raw_basic 83 = .ok (.ireturn, 1) := by decide +kernel
theorem d_Raw_basic_84 : decode b_Raw_basic 84 = .ok (.iload_n 3, 1) := by decide +kernel
theorem d_Raw_basic_85 : decode b_Raw_basic 85 = .ok (.ifCond .eq 12, 3) := by decide +kernel
theorem d_Raw_basic_88 : decode b_Raw_basic 88 = .ok (.iload_n 1, 1) := by decide +kernel
theorem d_Raw_basic_89 : decode b_Raw_basic 89 = .ok (.iload_n 2, 1) := by decide +kernel
theorem d_Raw_basic_90 : decode b_Raw_basic 90 = .ok (.bipush 31, 2) := by decide +kernel
theorem d_Raw_basic_92 : decode b_Raw_basic 92 = .ok (.iand, 1) := by decide +kernel
theorem d_Raw_basic_93 : decode b_Raw_basic 93 = .ok (.ishr, 1) := by decide +kernel
theorem d_Raw_basic_94 : decode b_Raw_basic 94 = .ok (.goto 9, 3) := by decide +kernel
theorem d_Raw_basic_97 : decode b_Raw_basic 97 = .ok (.iload_n 1, 1) := by decide +kernel
theorem d_Raw_basic_98 : decode b_Raw_basic 98 = .ok (.iload_n 2, 1) := by decide +kernel
theorem d_Raw_basic_99 : decode b_Raw_basic 99 = .ok (.bipush 31, 2) := by decide +kernel
theorem d_Raw_basic_101 : decode b_Raw_basic 101 = .ok (.iand, 1) := by decide +kernel
theorem d_Raw_basic_102 : decode b_Raw_basic 102 = .ok (.iushr, 1) := by decide +kernel
theorem d_Raw_basic_103 : decode b_Raw_basic 103 = .ok (.ireturn, 1) := by decide +kernel
theorem d_Raw_basic_104 : decode b_Raw_basic 104 = .ok (.iload_n 1, 1) := by decide +kernel
theorem d_Raw_basic_105 : decode b_Raw_basic 105 = .ok (.iload_n 2, 1) := by decide +kernel
theorem d_Raw_basic_106 : decode b_Raw_basic 106 = .ok (.ior, 1) := by decide +kernel
theorem d_Raw_basic_107 : decode b_Raw_basic 107 = .ok (.ireturn, 1) := by decide +kernel
theorem d_Raw_basic_108 : decode b_Raw_basic 108 = .ok (.iload_n 1, 1) := by decide +kernel
theorem d_Raw_basic_109 : decode b_Raw_basic 109 = .ok (.iload_n 2, 1) := by decide +kernel
theorem d_Raw_basic_110 : decode b_Raw_basic 110 = .ok (.iand, 1) := by decide +kernel
theorem d_Raw_basic_111 : decode b_Raw_basic 111 = .ok (.ireturn, 1) := by decide +kernel
theorem q_Raw_basic : px_y y_Raw_basic 4 := by unfold px_y; decide +kernel
set_option maxHeartbeats 4000000 in
set_option maxRecDepth 100000 in
theorem c_Raw_basic (l : Launch) (D : va_G) (cs : Nat → ClassId)  (p0 p1 p2 p3 : Int32)   : MetI l y_Raw_basic b_Raw_basic 4 (.int) D cs 1 40 (0) (0) [.int p0, .int p1, .int p2, .int p3] [] (fun _ => True) (fun v ps => (ps = [])) := by
  refine px_enter (by decide) (Nat.le_of_ble_eq_true rfl) ?_
  intro p e s m below meth c A ls hAe S hr hlk hnm hA hT hX hw hl
  replace hl : lv_has ls 4 [(0, .int p0), (1, .int p1), (2, .int p2), (3, .int p3)] := hl
  have lp0 := Int32.le_toInt p0
  have up0 := Int32.toInt_lt p0
  have lp1 := Int32.le_toInt p1
  have up1 := Int32.toInt_lt p1
  have lp2 := Int32.le_toInt p2
  have up2 := Int32.toInt_lt p2
  have lp3 := Int32.le_toInt p3
  have up3 := Int32.toInt_lt p3
  have cst0 : (0 : Int32).toInt = 0 := rfl
  have cst1 : (1 : Int32).toInt = 1 := rfl
  have cst31 : (31 : Int32).toInt = 31 := rfl
  refine lv_iload_n S.x S.b d_Raw_basic_0 rfl (lv_at hl 0 rfl) ?_
  refine px_table S (tgts := [44, 48, 55, 66, 80, 84, 104, 108]) d_Raw_basic_1 (by decide +kernel) (by decide +kernel) ?_
  refine List.forall_mem_cons.mpr ⟨?_, List.forall_mem_cons.mpr ⟨?_, List.forall_mem_cons.mpr ⟨?_, List.forall_mem_cons.mpr ⟨?_, List.forall_mem_cons.mpr ⟨?_, List.forall_mem_cons.mpr ⟨?_, List.forall_mem_cons.mpr ⟨?_, List.forall_mem_cons.mpr ⟨?_, fun _ h => absurd h List.not_mem_nil⟩⟩⟩⟩⟩⟩⟩⟩
  ·
    refine lv_iload_n S.x S.b d_Raw_basic_44 rfl (lv_at hl 1 rfl) ?_
    refine lv_iload_n S.x S.b d_Raw_basic_45 rfl (lv_at hl 2 rfl) ?_
    refine lv_iadd S.x S.b d_Raw_basic_46 ?_
    refine lv_topi (fun z1 ez1 => ?_)
    have tz1 : z1.toInt = (p1.toInt + p2.toInt + 2147483648) % 4294967296 - 2147483648 := by rw [ez1]; exact i_add p1 p2
    have lz1 := Int32.le_toInt z1
    have uz1 := Int32.toInt_lt z1
    exact px_iret (v := z1) S hr rfl hlk hAe hw (Nat.le_of_ble_eq_true rfl) (Nat.le_of_ble_eq_true rfl) (rfl) d_Raw_basic_47
  ·
    refine lv_iload_n S.x S.b d_Raw_basic_48 rfl (lv_at hl 1 rfl) ?_
    refine lv_iload_n S.x S.b d_Raw_basic_49 rfl (lv_at hl 2 rfl) ?_
    refine lv_bipush (v := 31) S.x S.b d_Raw_basic_50 (by decide) ?_
    refine lv_iand S.x S.b d_Raw_basic_52 ?_
    refine lv_topi (fun z2 ez2 => ?_)
    have lz2 := Int32.le_toInt z2
    have uz2 := Int32.toInt_lt z2
    have bz2 := i_andm p2 (m := 31) 5 (by decide) (by decide)
    rw [← ez2] at bz2
    have wz2 : 0 ≤ z2.toInt ∧ z2.toInt ≤ 31 := by simp only [Nat.reducePow, Int.reducePow] at bz2; omega
    refine lv_ishl S.x S.b d_Raw_basic_53 ?_
    refine lv_topi (fun z3 ez3 => ?_)
    have lz3 := Int32.le_toInt z3
    have uz3 := Int32.toInt_lt z3
    exact px_iret (v := z3) S hr rfl hlk hAe hw (Nat.le_of_ble_eq_true rfl) (Nat.le_of_ble_eq_true rfl) (rfl) d_Raw_basic_54
  ·
    refine lv_iload_n S.x S.b d_Raw_basic_55 rfl (lv_at hl 1 rfl) ?_
    refine lv_iload_n S.x S.b d_Raw_basic_56 rfl (lv_at hl 2 rfl) ?_
    refine lv_icmp_ge (tgt := 64) S.x S.b d_Raw_basic_57 (by decide) (fun c4 => ?_) (fun c4 => ?_)
    · have nc4 : p2.toInt ≤ p1.toInt := (i_le (x := p2) (y := p1)).mp c4
      refine lv_iconst (v := 0) S.x S.b d_Raw_basic_64 (by decide) ?_
      exact px_iret (v := 0) S hr rfl hlk hAe hw (Nat.le_of_ble_eq_true rfl) (Nat.le_of_ble_eq_true rfl) (rfl) d_Raw_basic_65
    · have nc4 : ¬ p2.toInt ≤ p1.toInt := mt (i_le (x := p2) (y := p1)).mpr c4
      refine lv_iconst (v := 1) S.x S.b d_Raw_basic_60 (by decide) ?_
      refine lv_goto (tgt := 65) S.x S.b d_Raw_basic_61 (by decide) ?_
      exact px_iret (v := 1) S hr rfl hlk hAe hw (Nat.le_of_ble_eq_true rfl) (Nat.le_of_ble_eq_true rfl) (rfl) d_Raw_basic_65
  ·
    refine lv_iload_n S.x S.b d_Raw_basic_66 rfl (lv_at hl 1 rfl) ?_
    refine lv_iload_n S.x S.b d_Raw_basic_67 rfl (lv_at hl 2 rfl) ?_
    refine px_calli (pr := []) (px_runS (As := [.int p1, .int p2]) (rest := []) S (c_Raw_below l D cs  p1 p2   _) hT (pr := []) (pcs := []) hw px_X.tt m8_203 m8_201 m8_202 m1_34 q_Raw_below ⟨Nat.le_of_ble_eq_true rfl, Nat.le_of_ble_eq_true rfl⟩ hl.1 rfl (Nat.le_of_ble_eq_true rfl) d_Raw_basic_68 ⟨Nat.le_of_ble_eq_true rfl, Nat.le_of_ble_eq_true rfl⟩) hw hA (fun v6 p5 H locs hp5 hw => ?_)
    obtain ⟨rfl, e7⟩ := hp5
    have e7 := z_int e7
    replace hw : pw D A s.heap H locs [] := hw
    have lv6 := Int32.le_toInt v6
    have uv6 := Int32.toInt_lt v6
    refine lv_if_eq (tgt := 78) S.x S.b d_Raw_basic_71 (by decide) (fun c8 => ?_) (fun c8 => ?_)
    · have nc8 : v6.toInt = (0 : Int) := (i_eq (x := v6) (y := 0)).mp c8
      refine lv_iconst (v := 0) S.x S.b d_Raw_basic_78 (by decide) ?_
      exact px_iret (v := 0) S hr rfl hlk hAe hw (Nat.le_of_ble_eq_true rfl) (Nat.le_of_ble_eq_true rfl) (rfl) d_Raw_basic_79
    · have nc8 : ¬ v6.toInt = (0 : Int) := mt (i_eq (x := v6) (y := 0)).mpr c8
      refine lv_iconst (v := 1) S.x S.b d_Raw_basic_74 (by decide) ?_
      refine lv_goto (tgt := 79) S.x S.b d_Raw_basic_75 (by decide) ?_
      exact px_iret (v := 1) S hr rfl hlk hAe hw (Nat.le_of_ble_eq_true rfl) (Nat.le_of_ble_eq_true rfl) (rfl) d_Raw_basic_79
  ·
    refine lv_iload_n S.x S.b d_Raw_basic_80 rfl (lv_at hl 1 rfl) ?_
    refine lv_iload_n S.x S.b d_Raw_basic_81 rfl (lv_at hl 2 rfl) ?_
    refine lv_ixor S.x S.b d_Raw_basic_82 ?_
    refine lv_topi (fun z9 ez9 => ?_)
    have lz9 := Int32.le_toInt z9
    have uz9 := Int32.toInt_lt z9
    exact px_iret (v := z9) S hr rfl hlk hAe hw (Nat.le_of_ble_eq_true rfl) (Nat.le_of_ble_eq_true rfl) (rfl) d_Raw_basic_83
  ·
    refine lv_iload_n S.x S.b d_Raw_basic_84 rfl (lv_at hl 3 rfl) ?_
    refine lv_if_eq (tgt := 97) S.x S.b d_Raw_basic_85 (by decide) (fun c10 => ?_) (fun c10 => ?_)
    · have nc10 : p3.toInt = (0 : Int) := (i_eq (x := p3) (y := 0)).mp c10
      refine lv_iload_n S.x S.b d_Raw_basic_97 rfl (lv_at hl 1 rfl) ?_
      refine lv_iload_n S.x S.b d_Raw_basic_98 rfl (lv_at hl 2 rfl) ?_
      refine lv_bipush (v := 31) S.x S.b d_Raw_basic_99 (by decide) ?_
      refine lv_iand S.x S.b d_Raw_basic_101 ?_
      refine lv_topi (fun z11 ez11 => ?_)
      have lz11 := Int32.le_toInt z11
      have uz11 := Int32.toInt_lt z11
      have bz11 := i_andm p2 (m := 31) 5 (by decide) (by decide)
      rw [← ez11] at bz11
      have wz11 : 0 ≤ z11.toInt ∧ z11.toInt ≤ 31 := by simp only [Nat.reducePow, Int.reducePow] at bz11; omega
      refine lv_iushr S.x S.b d_Raw_basic_102 rfl ?_
      refine lv_topi (fun z12 ez12 => ?_)
      have lz12 := Int32.le_toInt z12
      have uz12 := Int32.toInt_lt z12
      exact px_iret (v := z12) S hr rfl hlk hAe hw (Nat.le_of_ble_eq_true rfl) (Nat.le_of_ble_eq_true rfl) (rfl) d_Raw_basic_103
    · have nc10 : ¬ p3.toInt = (0 : Int) := mt (i_eq (x := p3) (y := 0)).mpr c10
      refine lv_iload_n S.x S.b d_Raw_basic_88 rfl (lv_at hl 1 rfl) ?_
      refine lv_iload_n S.x S.b d_Raw_basic_89 rfl (lv_at hl 2 rfl) ?_
      refine lv_bipush (v := 31) S.x S.b d_Raw_basic_90 (by decide) ?_
      refine lv_iand S.x S.b d_Raw_basic_92 ?_
      refine lv_topi (fun z13 ez13 => ?_)
      have lz13 := Int32.le_toInt z13
      have uz13 := Int32.toInt_lt z13
      have bz13 := i_andm p2 (m := 31) 5 (by decide) (by decide)
      rw [← ez13] at bz13
      have wz13 : 0 ≤ z13.toInt ∧ z13.toInt ≤ 31 := by simp only [Nat.reducePow, Int.reducePow] at bz13; omega
      refine lv_ishr S.x S.b d_Raw_basic_93 ?_
      refine lv_topi (fun z14 ez14 => ?_)
      have lz14 := Int32.le_toInt z14
      have uz14 := Int32.toInt_lt z14
      refine lv_goto (tgt := 103) S.x S.b d_Raw_basic_94 (by decide) ?_
      exact px_iret (v := z14) S hr rfl hlk hAe hw (Nat.le_of_ble_eq_true rfl) (Nat.le_of_ble_eq_true rfl) (rfl) d_Raw_basic_103
  ·
    refine lv_iload_n S.x S.b d_Raw_basic_104 rfl (lv_at hl 1 rfl) ?_
    refine lv_iload_n S.x S.b d_Raw_basic_105 rfl (lv_at hl 2 rfl) ?_
    refine lv_ior S.x S.b d_Raw_basic_106 ?_
    refine lv_topi (fun z15 ez15 => ?_)
    have lz15 := Int32.le_toInt z15
    have uz15 := Int32.toInt_lt z15
    exact px_iret (v := z15) S hr rfl hlk hAe hw (Nat.le_of_ble_eq_true rfl) (Nat.le_of_ble_eq_true rfl) (rfl) d_Raw_basic_107
  ·
    refine lv_iload_n S.x S.b d_Raw_basic_108 rfl (lv_at hl 1 rfl) ?_
    refine lv_iload_n S.x S.b d_Raw_basic_109 rfl (lv_at hl 2 rfl) ?_
    refine lv_iand S.x S.b d_Raw_basic_110 ?_
    refine lv_topi (fun z16 ez16 => ?_)
    have lz16 := Int32.le_toInt z16
    have uz16 := Int32.toInt_lt z16
    exact px_iret (v := z16) S hr rfl hlk hAe hw (Nat.le_of_ble_eq_true rfl) (Nat.le_of_ble_eq_true rfl) (rfl) d_Raw_basic_111
abbrev b_Raw_product : ByteArray := prog_8_method_26_code
def y_Raw_product : MethodName := ⟨"HomeSystem$RawProcess", "product", "(III)I"⟩
theorem d_Raw_product_0 : decode b_Raw_product 0 = .ok (.iload_n 0, 1) := by decide +kernel
theorem d_Raw_product_1 : decode b_Raw_product 1 = .ok (.tableswitch 55 0 2 #[27, 31, 41], 27) := by decide +kernel
theorem d_Raw_product_28 : decode b_Raw_product 28 = .ok (.iload_n 1, 1) := by decide +kernel
theorem d_Raw_product_29 : decode b_Raw_product 29 = .ok (.iload_n 2, 1) := by decide +kernel
theorem d_Raw_product_30 : decode b_Raw_product 30 = .ok (.imul, 1) := by decide +kernel
theorem d_Raw_product_31 : decode b_Raw_product 31 = .ok (.ireturn, 1) := by decide +kernel
theorem d_Raw_product_32 : decode b_Raw_product 32 = .ok (.iload_n 1, 1) := by decide +kernel
theorem d_Raw_product_33 : decode b_Raw_product 33 = .ok (.i2l, 1) := by decide +kernel
theorem d_Raw_product_34 : decode b_Raw_product 34 = .ok (.iload_n 2, 1) := by decide +kernel
theorem d_Raw_product_35 : decode b_Raw_product 35 = .ok (.i2l, 1) := by decide +kernel
theorem d_Raw_product_36 : decode b_Raw_product 36 = .ok (.lmul, 1) := by decide +kernel
theorem d_Raw_product_37 : decode b_Raw_product 37 = .ok (.bipush 32, 2) := by decide +kernel
theorem d_Raw_product_39 : decode b_Raw_product 39 = .ok (.lshr, 1) := by decide +kernel
theorem d_Raw_product_40 : decode b_Raw_product 40 = .ok (.l2i, 1) := by decide +kernel
theorem d_Raw_product_41 : decode b_Raw_product 41 = .ok (.ireturn, 1) := by decide +kernel
theorem d_Raw_product_42 : decode b_Raw_product 42 = .ok (.iload_n 1, 1) := by decide +kernel
theorem d_Raw_product_43 : decode b_Raw_product 43 = .ok (.i2l, 1) := by decide +kernel
theorem d_Raw_product_44 : decode b_Raw_product 44 = .ok (.iload_n 2, 1) := by decide +kernel
theorem d_Raw_product_45 : decode b_Raw_product 45 = .ok (.i2l, 1) := by decide +kernel
theorem d_Raw_product_46 : decode b_Raw_product 46 = .ok (.ldc2_w 144, 3) := by decide +kernel
theorem d_Raw_product_49 : decode b_Raw_product 49 = .ok (.land, 1) := by decide +kernel
theorem d_Raw_product_50 : decode b_Raw_product 50 = .ok (.lmul, 1) := by decide +kernel
theorem d_Raw_product_51 : decode b_Raw_product 51 = .ok (.bipush 32, 2) := by decide +kernel
theorem d_Raw_product_53 : decode b_Raw_product 53 = .ok (.lshr, 1) := by decide +kernel
theorem d_Raw_product_54 : decode b_Raw_product 54 = .ok (.l2i, 1) := by decide +kernel
theorem d_Raw_product_55 : decode b_Raw_product 55 = .ok (.ireturn, 1) := by decide +kernel
theorem d_Raw_product_56 : decode b_Raw_product 56 = .ok (.iload_n 1, 1) := by decide +kernel
theorem d_Raw_product_57 : decode b_Raw_product 57 = .ok (.i2l, 1) := by decide +kernel
theorem d_Raw_product_58 : decode b_Raw_product 58 = .ok (.ldc2_w 144, 3) := by decide +kernel
theorem d_Raw_product_61 : decode b_Raw_product 61 = .ok (.land, 1) := by decide +kernel
theorem d_Raw_product_62 : decode b_Raw_product 62 = .ok (.iload_n 2, 1) := by decide +kernel
theorem d_Raw_product_63 : decode b_Raw_product 63 = .ok (.i2l, 1) := by decide +kernel
theorem d_Raw_product_64 : decode b_Raw_product 64 = .ok (.ldc2_w 144, 3) := by decide +kernel
theorem d_Raw_product_67 : decode b_Raw_product 67 = .ok (.land, 1) := by decide +kernel
theorem d_Raw_product_68 : decode b_Raw_product 68 = .ok (.lmul, 1) := by decide +kernel
theorem d_Raw_product_69 : decode b_Raw_product 69 = .ok (.bipush 32, 2) := by decide +kernel
theorem d_Raw_product_71 : decode b_Raw_product 71 = .ok (.lushr, 1) := by decide +kernel
theorem d_Raw_product_72 : decode b_Raw_product 72 = .ok (.l2i, 1) := by decide +kernel
theorem d_Raw_product_73 : decode b_Raw_product 73 = .ok (.ireturn, 1) := by decide +kernel
theorem q_Raw_product : px_y y_Raw_product 3 := by unfold px_y; decide +kernel
set_option maxHeartbeats 4000000 in
set_option maxRecDepth 100000 in
theorem c_Raw_product (l : Launch) (D : va_G) (cs : Nat → ClassId)  (p0 p1 p2 : Int32)   : MetI l y_Raw_product b_Raw_product 3 (.int) D cs 0 0 (0) (0) [.int p0, .int p1, .int p2] [] (fun _ => True) (fun v ps => (ps = [])) := by
  refine px_enter (by decide) (Nat.le_of_ble_eq_true rfl) ?_
  intro p e s m below meth c A ls hAe S hr hlk hnm hA hT hX hw hl
  replace hl : lv_has ls 3 [(0, .int p0), (1, .int p1), (2, .int p2)] := hl
  have lp0 := Int32.le_toInt p0
  have up0 := Int32.toInt_lt p0
  have lp1 := Int32.le_toInt p1
  have up1 := Int32.toInt_lt p1
  have lp2 := Int32.le_toInt p2
  have up2 := Int32.toInt_lt p2
  have cst32 : (32 : Int32).toInt = 32 := rfl
  refine lv_iload_n S.x S.b d_Raw_product_0 rfl (lv_at hl 0 rfl) ?_
  refine px_table S (tgts := [28, 32, 42, 56]) d_Raw_product_1 (by decide +kernel) (by decide +kernel) ?_
  refine List.forall_mem_cons.mpr ⟨?_, List.forall_mem_cons.mpr ⟨?_, List.forall_mem_cons.mpr ⟨?_, List.forall_mem_cons.mpr ⟨?_, fun _ h => absurd h List.not_mem_nil⟩⟩⟩⟩
  ·
    refine lv_iload_n S.x S.b d_Raw_product_28 rfl (lv_at hl 1 rfl) ?_
    refine lv_iload_n S.x S.b d_Raw_product_29 rfl (lv_at hl 2 rfl) ?_
    refine lv_imul S.x S.b d_Raw_product_30 ?_
    refine lv_topi (fun z1 ez1 => ?_)
    have lz1 := Int32.le_toInt z1
    have uz1 := Int32.toInt_lt z1
    exact px_iret (v := z1) S hr rfl hlk hAe hw (Nat.le_of_ble_eq_true rfl) (Nat.le_of_ble_eq_true rfl) (rfl) d_Raw_product_31
  ·
    refine lv_iload_n S.x S.b d_Raw_product_32 rfl (lv_at hl 1 rfl) ?_
    refine lv_i2l S.x S.b d_Raw_product_33 rfl ?_
    refine lv_iload_n S.x S.b d_Raw_product_34 rfl (lv_at hl 2 rfl) ?_
    refine lv_i2l S.x S.b d_Raw_product_35 rfl ?_
    refine lv_lmul S.x S.b d_Raw_product_36 ?_
    refine lv_topl (fun z2 ez2 => ?_)
    refine lv_bipush (v := 32) S.x S.b d_Raw_product_37 (by decide) ?_
    refine lv_lshr S.x S.b d_Raw_product_39 rfl ?_
    refine lv_topl (fun z3 ez3 => ?_)
    refine lv_l2i S.x S.b d_Raw_product_40 rfl ?_
    refine lv_topi (fun z4 ez4 => ?_)
    have lz4 := Int32.le_toInt z4
    have uz4 := Int32.toInt_lt z4
    exact px_iret (v := z4) S hr rfl hlk hAe hw (Nat.le_of_ble_eq_true rfl) (Nat.le_of_ble_eq_true rfl) (rfl) d_Raw_product_41
  ·
    refine lv_iload_n S.x S.b d_Raw_product_42 rfl (lv_at hl 1 rfl) ?_
    refine lv_i2l S.x S.b d_Raw_product_43 rfl ?_
    refine lv_iload_n S.x S.b d_Raw_product_44 rfl (lv_at hl 2 rfl) ?_
    refine lv_i2l S.x S.b d_Raw_product_45 rfl ?_
    refine lv_ldc2 (v := 4294967295) S.x S.b S.own (S.w m8_204) d_Raw_product_46 ?_
    refine lv_land S.x S.b d_Raw_product_49 ?_
    refine lv_topl (fun z5 ez5 => ?_)
    refine lv_lmul S.x S.b d_Raw_product_50 ?_
    refine lv_topl (fun z6 ez6 => ?_)
    refine lv_bipush (v := 32) S.x S.b d_Raw_product_51 (by decide) ?_
    refine lv_lshr S.x S.b d_Raw_product_53 rfl ?_
    refine lv_topl (fun z7 ez7 => ?_)
    refine lv_l2i S.x S.b d_Raw_product_54 rfl ?_
    refine lv_topi (fun z8 ez8 => ?_)
    have lz8 := Int32.le_toInt z8
    have uz8 := Int32.toInt_lt z8
    exact px_iret (v := z8) S hr rfl hlk hAe hw (Nat.le_of_ble_eq_true rfl) (Nat.le_of_ble_eq_true rfl) (rfl) d_Raw_product_55
  ·
    refine lv_iload_n S.x S.b d_Raw_product_56 rfl (lv_at hl 1 rfl) ?_
    refine lv_i2l S.x S.b d_Raw_product_57 rfl ?_
    refine lv_ldc2 (v := 4294967295) S.x S.b S.own (S.w m8_204) d_Raw_product_58 ?_
    refine lv_land S.x S.b d_Raw_product_61 ?_
    refine lv_topl (fun z9 ez9 => ?_)
    refine lv_iload_n S.x S.b d_Raw_product_62 rfl (lv_at hl 2 rfl) ?_
    refine lv_i2l S.x S.b d_Raw_product_63 rfl ?_
    refine lv_ldc2 (v := 4294967295) S.x S.b S.own (S.w m8_204) d_Raw_product_64 ?_
    refine lv_land S.x S.b d_Raw_product_67 ?_
    refine lv_topl (fun z10 ez10 => ?_)
    refine lv_lmul S.x S.b d_Raw_product_68 ?_
    refine lv_topl (fun z11 ez11 => ?_)
    refine lv_bipush (v := 32) S.x S.b d_Raw_product_69 (by decide) ?_
    refine lv_lushr S.x S.b d_Raw_product_71 rfl ?_
    refine lv_topl (fun z12 ez12 => ?_)
    refine lv_l2i S.x S.b d_Raw_product_72 rfl ?_
    refine lv_topi (fun z13 ez13 => ?_)
    have lz13 := Int32.le_toInt z13
    have uz13 := Int32.toInt_lt z13
    exact px_iret (v := z13) S hr rfl hlk hAe hw (Nat.le_of_ble_eq_true rfl) (Nat.le_of_ble_eq_true rfl) (rfl) d_Raw_product_73
