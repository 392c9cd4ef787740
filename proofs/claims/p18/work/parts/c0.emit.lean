theorem oz_21282d9d75 {a0 a1 : Int} (h0 : a0 = 3 * a1 + 1) (h1 : 0 ≤ a1) : 0 ≤ a0 := by omega
theorem oz_a16ae55fe4 {a0 a1 : Int} (h0 : a0 = 3 * a1 + 2) (h1 : 0 ≤ a1) : 0 ≤ a0 := by omega
theorem oz_2466d5c0bc {a0 : Int} (h0 : a0 < 43) : a0 ≤ 42 := by omega
theorem oz_b5db004f6b {a0 a1 a2 : Int} {n3 n4 : Nat} (h0 : a0 = a1 + (1 : Int)) (h1 : a1 = 3 * a2) (h2 : ¬ a2 < (0 : Int)) (h3 : a2 = (n3 : Int)) (h4 : n3 < n4) (h5 : n4 ≤ 7000) : 0 ≤ a0 ∧ a0 < ((21000 : Nat) : Int) := by omega
theorem m10_58 : Cond.fieldLink "HomeSystemModel$Program" 280 "HomeSystemModel$Program" "code" "[I" ∈ AL := AL_10 (List.mem_of_getElem? (i := 58) rfl) rfl
theorem m10_57 : Cond.fieldLink "HomeSystemModel$Program" 708 "HomeSystemModel$Program" "steps" "I" ∈ AL := AL_10 (List.mem_of_getElem? (i := 57) rfl) rfl
/-! THE CODE of a text: rows of three; jumps that wait -/
def EmU (ea ea' : Nat → Nat → Int32) (s op a b : Int32) : Prop := (∀ k : Nat, k ≠ 61 → ea' k = ea k) ∧ (∀ i : Nat, (i : Int) < 3 * s.toInt ∨ 3 * s.toInt + 3 ≤ (i : Int) → ea' 61 i = ea 61 i) ∧ ea' 61 (3 * s.toInt).toNat = op ∧ ea' 61 (3 * s.toInt + 1).toNat = a ∧ ea' 61 (3 * s.toInt + 2).toNat = b
theorem emu_mk {ea : Nat → Nat → Int32} {s op a b x y z : Int32} {e1 e2 e3 : Nat → Nat → Int32} (h0 : 0 ≤ s.toInt) (hx : x.toInt = 3 * s.toInt) (hy : y.toInt = 3 * s.toInt + 1) (hz : z.toInt = 3 * s.toInt + 2) (u1 : e1 = va_up ea 61 (upd (ea 61) x.toNatClampNeg op)) (u2 : e2 = va_up e1 61 (upd (e1 61) y.toNatClampNeg a)) (u3 : e3 = va_up e2 61 (upd (e2 61) z.toNatClampNeg b)) : EmU ea e3 s op a b := by
  have cx := cl_nat (x := x) (by first | exact oz_016f458179 cx | omega)
  have cy := cl_nat (x := y) (by first | exact oz_21282d9d75 hy h0 | omega)
  have cz := cl_nat (x := z) (by first | exact oz_a16ae55fe4 hz h0 | omega)
  subst u1; subst u2; subst u3
  refine ⟨fun k hk => ?_, fun i hi => ?_, ?_, ?_, ?_⟩
  · funext i; rw [va_up_n hk, va_up_n hk, va_up_n hk]
  · rw [va_up_s, pk_un (by omega), va_up_s, pk_un (by omega), va_up_s, pk_un (by omega)]
  · rw [show (3 * s.toInt).toNat = x.toNatClampNeg by omega, va_up_s, pk_un (by omega), va_up_s, pk_un (by omega), va_up_s, pk_us]
  · rw [show (3 * s.toInt + 1).toNat = y.toNatClampNeg by omega, va_up_s, pk_un (by omega), va_up_s, pk_us]
  · rw [show (3 * s.toInt + 2).toNat = z.toNatClampNeg by omega, va_up_s, pk_us]
/-- a row's target is written -/
def LaU (ea ea' : Nat → Nat → Int32) (s to : Int32) : Prop := (∀ k : Nat, k ≠ 61 → ea' k = ea k) ∧ (∀ i : Nat, (i : Int) ≠ 3 * s.toInt + 1 → ea' 61 i = ea 61 i) ∧ ea' 61 (3 * s.toInt + 1).toNat = to
theorem lau_mk {ea e1 : Nat → Nat → Int32} {s to y : Int32} (h0 : 0 ≤ s.toInt) (hy : y.toInt = 3 * s.toInt + 1) (u : e1 = va_up ea 61 (upd (ea 61) y.toNatClampNeg to)) : LaU ea e1 s to := by
  have cy := cl_nat (x := y) (by first | exact oz_21282d9d75 hy h0 | omega)
  subst u
  refine ⟨fun k hk => ?_, fun i hi => ?_, ?_⟩
  · funext i; rw [va_up_n hk]
  · rw [va_up_s, pk_un (by omega)]
  · rw [show (3 * s.toInt + 1).toNat = y.toNatClampNeg by omega, va_up_s, pk_us]
/-- a chain of rows that wait, the last one first -/
def ChN (c : Nat → Int32) : Int32 → List Nat → Prop
  | k, [] => k.toInt < 0
  | k, p :: l => k.toInt = (p : Int) ∧ ChN c (c (3 * p + 1)) l
def Dec9 : Nat → List Nat → Prop
  | _, [] => True
  | n, p :: l => p < n ∧ Dec9 p l
def LaA (c c' : Nat → Int32) (l : List Nat) (to : Int32) : Prop := ∀ i : Nat, ((∃ p ∈ l, i = 3 * p + 1) → c' i = to) ∧ ((∀ p ∈ l, i ≠ 3 * p + 1) → c' i = c i)
/-- what of a chain is left -/
def LaL (c c1 : Nat → Int32) (n : Nat) (l l1 : List Nat) (k to : Int32) : Prop := ChN c1 k l1 ∧ Dec9 n l1 ∧ ∃ l0, l = l0 ++ l1 ∧ LaA c c1 l0 to
section CH
variable {c c' c1 c2 : Nat → Int32} {n : Nat} {l l1 : List Nat} {k to : Int32}
theorem Dec9.mem : ∀ {n : Nat} {l : List Nat} {p : Nat}, Dec9 n l → p ∈ l → p < n
  | _, [], _, _, h => absurd h List.not_mem_nil
  | n, q :: l, p, h, hm => by
    rcases List.mem_cons.mp hm with e | e
    · rw [e]; exact h.1
    · have := Dec9.mem h.2 e; have := h.1; omega
theorem ChN.eq : ∀ {l : List Nat} {k : Int32}, ChN c k l → (∀ p ∈ l, c' (3 * p + 1) = c (3 * p + 1)) → ChN c' k l
  | [], _, h, _ => h
  | p :: l, _, h, e => ⟨h.1, by rw [e p (List.mem_cons_self ..)]; exact ChN.eq h.2 (fun q hq => e q (List.mem_cons_of_mem _ hq))⟩
theorem lal_0 (h : ChN c k l) (d : Dec9 n l) : LaL c c n l l k to := ⟨h, d, [], rfl, fun i => ⟨fun q => q.elim fun p r => absurd r.1 List.not_mem_nil, fun _ => rfl⟩⟩
theorem LaL.nil (h : LaL c c1 n l l1 k to) (hk : k.toInt < 0) : LaA c c1 l to := by
  obtain ⟨h1, h2, l0, e, h3⟩ := h
  cases l1 with
  | nil => rw [e, List.append_nil]; exact h3
  | cons p l1 => have := h1.1; omega
theorem LaL.at (h : LaL c c1 n l l1 k to) (hk : 0 ≤ k.toInt) : ∃ p l2, l1 = p :: l2 ∧ k.toInt = (p : Int) ∧ p < n := by
  obtain ⟨h1, h2, -⟩ := h
  cases l1 with
  | nil => exact absurd h1 (by show ¬ k.toInt < 0; omega)
  | cons p l2 => exact ⟨p, l2, rfl, h1.1, h2.1⟩
theorem LaL.nx {p : Nat} {l2 : List Nat} {z y : Int32} (h : LaL c c1 n l (p :: l2) k to) (ez : z = c1 y.toNatClampNeg) (hy : y.toInt = 3 * k.toInt + 1) (hk : 0 ≤ k.toInt) (u : c2 = upd c1 y.toNatClampNeg to) : LaL c c2 n l l2 z to := by
  obtain ⟨⟨h1, h1'⟩, ⟨h2, h2'⟩, l0, e, h3⟩ := h
  have cy := cl_nat (x := y) (by first | exact oz_21282d9d75 hy hk | omega)
  have ey : y.toNatClampNeg = 3 * p + 1 := by omega
  subst u
  rw [ey] at ez ⊢
  refine ⟨?_, ?_, l0 ++ [p], by rw [e, List.append_assoc]; rfl, fun i => ⟨fun q => ?_, fun q => ?_⟩⟩
  · rw [ez]
    exact h1'.eq (fun q hq => pk_un (by have := h2'.mem hq; omega))
  · cases l2 with
    | nil => trivial
    | cons q l3 => exact ⟨by have := h2'.1; omega, h2'.2⟩
  · obtain ⟨q, hq, rfl⟩ := q
    rcases List.mem_append.mp hq with r | r
    · by_cases g : q = p
      · subst g; rw [pk_us]
      · rw [pk_un (by omega)]; exact (h3 _).1 ⟨q, r, rfl⟩
    · rw [List.mem_singleton.mp r, pk_us]
  · rw [pk_un (q p (List.mem_append.mpr (Or.inr (List.mem_singleton.mpr rfl))))]
    exact (h3 i).2 (fun q' hq' => q q' (List.mem_append.mpr (Or.inl hq')))
end CH
def EaK (ea ea' : Nat → Nat → Int32) : Prop := ∀ k : Nat, k ≠ 61 → ea' k = ea k
abbrev b_Mpg_emit : ByteArray := prog_16_method_106_code
def y_Mpg_emit : MethodName := ⟨"HomeSystemModel$Program", "emit", "(III)I"⟩
theorem d_Mpg_emit_0 : decode b_Mpg_emit 0 = .ok (.aload_n 0, 1) := by decide +kernel
theorem d_Mpg_emit_1 : decode b_Mpg_emit 1 = .ok (.getfield 280, 3) := by decide +kernel
theorem d_Mpg_emit_4 : decode b_Mpg_emit 4 = .ok (.iconst 3, 1) := by decide +kernel
theorem d_Mpg_emit_5 : decode b_Mpg_emit 5 = .ok (.aload_n 0, 1) := by decide +kernel
theorem d_Mpg_emit_6 : decode b_Mpg_emit 6 = .ok (.getfield 708, 3) := by decide +kernel
theorem d_Mpg_emit_9 : decode b_Mpg_emit 9 = .ok (.imul, 1) := by decide +kernel
theorem d_Mpg_emit_10 : decode b_Mpg_emit 10 = .ok (.iload_n 1, 1) := by decide +kernel
theorem d_Mpg_emit_11 : decode b_Mpg_emit 11 = .ok (.iastore, 1) := by decide +kernel
theorem d_Mpg_emit_12 : decode b_Mpg_emit 12 = .ok (.aload_n 0, 1) := by decide +kernel
theorem d_Mpg_emit_13 : decode b_Mpg_emit 13 = .ok (.getfield 280, 3) := by decide +kernel
theorem d_Mpg_emit_16 : decode b_Mpg_emit 16 = .ok (.iconst 3, 1) := by decide +kernel
theorem d_Mpg_emit_17 : decode b_Mpg_emit 17 = .ok (.aload_n 0, 1) := by decide +kernel
theorem d_Mpg_emit_18 : decode b_Mpg_emit 18 = .ok (.getfield 708, 3) := by decide +kernel
theorem d_Mpg_emit_21 : decode b_Mpg_emit 21 = .ok (.imul, 1) := by decide +kernel
theorem d_Mpg_emit_22 : decode b_Mpg_emit 22 = .ok (.iconst 1, 1) := by decide +kernel
theorem d_Mpg_emit_23 : decode b_Mpg_emit 23 = .ok (.iadd, 1) := by decide +kernel
theorem d_Mpg_emit_24 : decode b_Mpg_emit 24 = .ok (.iload_n 2, 1) := by decide +kernel
theorem d_Mpg_emit_25 : decode b_Mpg_emit 25 = .ok (.iastore, 1) := by decide +kernel
theorem d_Mpg_emit_26 : decode b_Mpg_emit 26 = .ok (.aload_n 0, 1) := by decide +kernel
theorem d_Mpg_emit_27 : decode b_Mpg_emit 27 = .ok (.getfield 280, 3) := by decide +kernel
theorem d_Mpg_emit_30 : decode b_Mpg_emit 30 = .ok (.iconst 3, 1) := by decide +kernel
theorem d_Mpg_emit_31 : decode b_Mpg_emit 31 = .ok (.aload_n 0, 1) := by decide +kernel
theorem d_Mpg_emit_32 : decode b_Mpg_emit 32 = .ok (.getfield 708, 3) := by decide +kernel
theorem d_Mpg_emit_35 : decode b_Mpg_emit 35 = .ok (.imul, 1) := by decide +kernel
theorem d_Mpg_emit_36 : decode b_Mpg_emit 36 = .ok (.iconst 2, 1) := by decide +kernel
theorem d_Mpg_emit_37 : decode b_Mpg_emit 37 = .ok (.iadd, 1) := by decide +kernel
theorem d_Mpg_emit_38 : decode b_Mpg_emit 38 = .ok (.iload_n 3, 1) := by decide +kernel
theorem d_Mpg_emit_39 : decode b_Mpg_emit 39 = .ok (.iastore, 1) := by decide +kernel
theorem d_Mpg_emit_40 : decode b_Mpg_emit 40 = .ok (.aload_n 0, 1) := by decide +kernel
theorem d_Mpg_emit_41 : decode b_Mpg_emit 41 = .ok (.dup, 1) := by decide +kernel
theorem d_Mpg_emit_42 : decode b_Mpg_emit 42 = .ok (.getfield 708, 3) := by decide +kernel
theorem d_Mpg_emit_45 : decode b_Mpg_emit 45 = .ok (.iconst 1, 1) := by decide +kernel
theorem d_Mpg_emit_46 : decode b_Mpg_emit 46 = .ok (.iadd, 1) := by decide +kernel
theorem d_Mpg_emit_47 : decode b_Mpg_emit 47 = .ok (.putfield 708, 3) := by decide +kernel
theorem d_Mpg_emit_50 : decode b_Mpg_emit 50 = .ok (.aload_n 0, 1) := by decide +kernel
theorem d_Mpg_emit_51 : decode b_Mpg_emit 51 = .ok (.getfield 708, 3) := by decide +kernel
theorem d_Mpg_emit_54 : decode b_Mpg_emit 54 = .ok (.iconst 1, 1) := by decide +kernel
theorem d_Mpg_emit_55 : decode b_Mpg_emit 55 = .ok (.isub, 1) := by decide +kernel
theorem d_Mpg_emit_56 : decode b_Mpg_emit 56 = .ok (.ireturn, 1) := by decide +kernel
theorem q_Mpg_emit : px_y y_Mpg_emit 3 := by unfold px_y; decide +kernel
set_option maxHeartbeats 4000000 in
set_option maxRecDepth 100000 in
theorem c_mp_emit (l : Launch) (D : va_G) (cs : Nat → ClassId) (h : Nat) (r : Nat → Nat) (g : Nat → Nat → Option Nat) (tf : Nat → Int32) (ta : Nat → Nat → Int32) (pf : Nat → Int32) (na : Nat → Nat → Int32) (ma : Nat → Nat → Int32) (wa : Nat → Nat → Int32) (cf : Nat → Int32) (ca : Nat → Nat → Int32) (xf : Nat → Int32) (xa : Nat → Nat → Int32) (ef : Nat → Int32) (ea : Nat → Nat → Int32) (p0 p1 p2 : Int32)  (g0 : 0 ≤ (ef 60).toInt) (g1 : (ef 60).toInt < 7000) : MetI l y_Mpg_emit b_Mpg_emit 4 (.int) D cs 0 0 (0) (0) [.ref h, .int p0, .int p1, .int p2] [wdP cs h r g tf ta pf na ma wa cf ca ef ea xf xa] (fun _ => True) (fun v ps => ∃ (ef' : Nat → Int32) (ea' : Nat → Nat → Int32), (ps = [wdP cs h r g tf ta pf na ma wa cf ca ef' ea' xf xa]) ∧ (v.toInt = (ef 60).toInt) ∧ ((ef' 60).toInt = (ef 60).toInt + 1) ∧ ((ef' 64).toInt = (ef 64).toInt) ∧ ((ef' 65).toInt = (ef 65).toInt) ∧ (EmU ea ea' (ef 60) p0 p1 p2)) := by
  refine px_enter (by decide) (Nat.le_of_ble_eq_true rfl) ?_
  intro p e s m below meth c A ls hAe S hr hlk hnm hA hT hX hw hl
  replace hl : lv_has ls 4 [(0, .ref h), (1, .int p0), (2, .int p1), (3, .int p2)] := hl
  have lp0 := Int32.le_toInt p0
  have up0 := Int32.toInt_lt p0
  have lp1 := Int32.le_toInt p1
  have up1 := Int32.toInt_lt p1
  have lp2 := Int32.le_toInt p2
  have up2 := Int32.toInt_lt p2
  have cst1 : (1 : Int32).toInt = 1 := rfl
  have cst2 : (2 : Int32).toInt = 2 := rfl
  have cst3 : (3 : Int32).toInt = 3 := rfl
  refine lv_aload_n S.x S.b d_Mpg_emit_0 rfl (lv_at hl 0 rfl) ?_
  refine gP_61 S hT hw 0 rfl m10_58 d_Mpg_emit_1 ?_
  refine lv_iconst (v := 3) S.x S.b d_Mpg_emit_4 (by decide) ?_
  refine lv_aload_n S.x S.b d_Mpg_emit_5 rfl (lv_at hl 0 rfl) ?_
  refine gP_60 (v := (ef 60)) S hT hw 0 rfl rfl m10_57 d_Mpg_emit_6 ?_
  refine lv_imul S.x S.b d_Mpg_emit_9 ?_
  have lr1 := Int32.le_toInt (ef 60)
  have ur1 := Int32.toInt_lt (ef 60)
  refine lv_topi (fun z2 ez2 => ?_)
  have lz2 := Int32.le_toInt z2
  have uz2 := Int32.toInt_lt z2
  have tz2 : -2147483648 ≤ 3 * (ef 60).toInt → 3 * (ef 60).toInt < 2147483648 → z2.toInt = 3 * (ef 60).toInt := by rw [ez2]; exact i_mulc 3 (ef 60) (by decide)
  try replace tz2 : z2.toInt = 3 * (ef 60).toInt := by omega
  refine lv_iload_n S.x S.b d_Mpg_emit_10 rfl (lv_at hl 1 rfl) ?_
  refine px_iast S hT hw 0 34 (n := 21000) (f := (ea 61)) (x := z2) (y := p0) rfl gp_61 (vp_in_iff.mpr (by constructor <;> omega)) d_Mpg_emit_11 (w' := wdP cs h r g tf ta pf na ma wa cf ca ef (va_up ea 61 (upd (ea 61) z2.toNatClampNeg p0)) xf xa) (ps' := [wdP cs h r g tf ta pf na ma wa cf ca ef (va_up ea 61 (upd (ea 61) z2.toNatClampNeg p0)) xf xa]) sp_61 rfl (fun H locs hw => ?_)
  refine lv_aload_n S.x S.b d_Mpg_emit_12 rfl (lv_at hl 0 rfl) ?_
  refine gP_61 S hT hw 0 rfl m10_58 d_Mpg_emit_13 ?_
  refine lv_iconst (v := 3) S.x S.b d_Mpg_emit_16 (by decide) ?_
  refine lv_aload_n S.x S.b d_Mpg_emit_17 rfl (lv_at hl 0 rfl) ?_
  refine gP_60 (v := (ef 60)) S hT hw 0 rfl rfl m10_57 d_Mpg_emit_18 ?_
  refine lv_imul S.x S.b d_Mpg_emit_21 ?_
  have lr3 := Int32.le_toInt (ef 60)
  have ur3 := Int32.toInt_lt (ef 60)
  refine lv_topi (fun z4 ez4 => ?_)
  have lz4 := Int32.le_toInt z4
  have uz4 := Int32.toInt_lt z4
  have tz4 : -2147483648 ≤ 3 * (ef 60).toInt → 3 * (ef 60).toInt < 2147483648 → z4.toInt = 3 * (ef 60).toInt := by rw [ez4]; exact i_mulc 3 (ef 60) (by decide)
  try replace tz4 : z4.toInt = 3 * (ef 60).toInt := by omega
  refine lv_iconst (v := 1) S.x S.b d_Mpg_emit_22 (by decide) ?_
  refine lv_iadd S.x S.b d_Mpg_emit_23 ?_
  refine lv_topi (fun z5 ez5 => ?_)
  have tz5 : z5.toInt = (z4.toInt + (1 : Int) + 2147483648) % 4294967296 - 2147483648 := by rw [ez5]; exact i_add z4 1
  have lz5 := Int32.le_toInt z5
  have uz5 := Int32.toInt_lt z5
  try replace tz5 : z5.toInt = z4.toInt + (1 : Int) := by omega
  refine lv_iload_n S.x S.b d_Mpg_emit_24 rfl (lv_at hl 2 rfl) ?_
  refine px_iast S hT hw 0 34 (n := 21000) (f := ((va_up ea 61 (upd (ea 61) z2.toNatClampNeg p0)) 61)) (x := z5) (y := p1) rfl gp_61 (vp_in_iff.mpr (by constructor <;> omega)) d_Mpg_emit_25 (w' := wdP cs h r g tf ta pf na ma wa cf ca ef (va_up (va_up ea 61 (upd (ea 61) z2.toNatClampNeg p0)) 61 (upd ((va_up ea 61 (upd (ea 61) z2.toNatClampNeg p0)) 61) z5.toNatClampNeg p1)) xf xa) (ps' := [wdP cs h r g tf ta pf na ma wa cf ca ef (va_up (va_up ea 61 (upd (ea 61) z2.toNatClampNeg p0)) 61 (upd ((va_up ea 61 (upd (ea 61) z2.toNatClampNeg p0)) 61) z5.toNatClampNeg p1)) xf xa]) sp_61 rfl (fun H locs hw => ?_)
  refine lv_aload_n S.x S.b d_Mpg_emit_26 rfl (lv_at hl 0 rfl) ?_
  refine gP_61 S hT hw 0 rfl m10_58 d_Mpg_emit_27 ?_
  refine lv_iconst (v := 3) S.x S.b d_Mpg_emit_30 (by decide) ?_
  refine lv_aload_n S.x S.b d_Mpg_emit_31 rfl (lv_at hl 0 rfl) ?_
  refine gP_60 (v := (ef 60)) S hT hw 0 rfl rfl m10_57 d_Mpg_emit_32 ?_
  refine lv_imul S.x S.b d_Mpg_emit_35 ?_
  have lr6 := Int32.le_toInt (ef 60)
  have ur6 := Int32.toInt_lt (ef 60)
  refine lv_topi (fun z7 ez7 => ?_)
  have lz7 := Int32.le_toInt z7
  have uz7 := Int32.toInt_lt z7
  have tz7 : -2147483648 ≤ 3 * (ef 60).toInt → 3 * (ef 60).toInt < 2147483648 → z7.toInt = 3 * (ef 60).toInt := by rw [ez7]; exact i_mulc 3 (ef 60) (by decide)
  try replace tz7 : z7.toInt = 3 * (ef 60).toInt := by omega
  refine lv_iconst (v := 2) S.x S.b d_Mpg_emit_36 (by decide) ?_
  refine lv_iadd S.x S.b d_Mpg_emit_37 ?_
  refine lv_topi (fun z8 ez8 => ?_)
  have tz8 : z8.toInt = (z7.toInt + (2 : Int) + 2147483648) % 4294967296 - 2147483648 := by rw [ez8]; exact i_add z7 2
  have lz8 := Int32.le_toInt z8
  have uz8 := Int32.toInt_lt z8
  try replace tz8 : z8.toInt = z7.toInt + (2 : Int) := by omega
  refine lv_iload_n S.x S.b d_Mpg_emit_38 rfl (lv_at hl 3 rfl) ?_
  refine px_iast S hT hw 0 34 (n := 21000) (f := ((va_up (va_up ea 61 (upd (ea 61) z2.toNatClampNeg p0)) 61 (upd ((va_up ea 61 (upd (ea 61) z2.toNatClampNeg p0)) 61) z5.toNatClampNeg p1)) 61)) (x := z8) (y := p2) rfl gp_61 (vp_in_iff.mpr (by constructor <;> omega)) d_Mpg_emit_39 (w' := wdP cs h r g tf ta pf na ma wa cf ca ef (va_up (va_up (va_up ea 61 (upd (ea 61) z2.toNatClampNeg p0)) 61 (upd ((va_up ea 61 (upd (ea 61) z2.toNatClampNeg p0)) 61) z5.toNatClampNeg p1)) 61 (upd ((va_up (va_up ea 61 (upd (ea 61) z2.toNatClampNeg p0)) 61 (upd ((va_up ea 61 (upd (ea 61) z2.toNatClampNeg p0)) 61) z5.toNatClampNeg p1)) 61) z8.toNatClampNeg p2)) xf xa) (ps' := [wdP cs h r g tf ta pf na ma wa cf ca ef (va_up (va_up (va_up ea 61 (upd (ea 61) z2.toNatClampNeg p0)) 61 (upd ((va_up ea 61 (upd (ea 61) z2.toNatClampNeg p0)) 61) z5.toNatClampNeg p1)) 61 (upd ((va_up (va_up ea 61 (upd (ea 61) z2.toNatClampNeg p0)) 61 (upd ((va_up ea 61 (upd (ea 61) z2.toNatClampNeg p0)) 61) z5.toNatClampNeg p1)) 61) z8.toNatClampNeg p2)) xf xa]) sp_61 rfl (fun H locs hw => ?_)
  refine lv_aload_n S.x S.b d_Mpg_emit_40 rfl (lv_at hl 0 rfl) ?_
  refine lv_dup S.x S.b d_Mpg_emit_41 rfl ?_
  refine gP_60 (v := (ef 60)) S hT hw 0 rfl rfl m10_57 d_Mpg_emit_42 ?_
  refine lv_iconst (v := 1) S.x S.b d_Mpg_emit_45 (by decide) ?_
  refine lv_iadd S.x S.b d_Mpg_emit_46 ?_
  have lr9 := Int32.le_toInt (ef 60)
  have ur9 := Int32.toInt_lt (ef 60)
  refine lv_topi (fun z10 ez10 => ?_)
  have tz10 : z10.toInt = ((ef 60).toInt + (1 : Int) + 2147483648) % 4294967296 - 2147483648 := by rw [ez10]; exact i_add (ef 60) 1
  have lz10 := Int32.le_toInt z10
  have uz10 := Int32.toInt_lt z10
  try replace tz10 : z10.toInt = (ef 60).toInt + (1 : Int) := by omega
  refine pP_60 S hT hw 0 rfl m10_57 rfl rfl rfl d_Mpg_emit_47 (ps' := [wdP cs h r g tf ta pf na ma wa cf ca (upd ef 60 z10) (va_up (va_up (va_up ea 61 (upd (ea 61) z2.toNatClampNeg p0)) 61 (upd ((va_up ea 61 (upd (ea 61) z2.toNatClampNeg p0)) 61) z5.toNatClampNeg p1)) 61 (upd ((va_up (va_up ea 61 (upd (ea 61) z2.toNatClampNeg p0)) 61 (upd ((va_up ea 61 (upd (ea 61) z2.toNatClampNeg p0)) 61) z5.toNatClampNeg p1)) 61) z8.toNatClampNeg p2)) xf xa]) rfl (fun H locs hw => ?_)
  refine lv_aload_n S.x S.b d_Mpg_emit_50 rfl (lv_at hl 0 rfl) ?_
  refine gP_60 (v := z10) S hT hw 0 rfl rfl m10_57 d_Mpg_emit_51 ?_
  refine lv_iconst (v := 1) S.x S.b d_Mpg_emit_54 (by decide) ?_
  refine lv_isub S.x S.b d_Mpg_emit_55 ?_
  refine lv_topi (fun z11 ez11 => ?_)
  have tz11 : z11.toInt = (z10.toInt - (1 : Int) + 2147483648) % 4294967296 - 2147483648 := by rw [ez11]; exact i_sub z10 1
  have lz11 := Int32.le_toInt z11
  have uz11 := Int32.toInt_lt z11
  try replace tz11 : z11.toInt = z10.toInt - (1 : Int) := by omega
  exact px_iret (v := z11) S hr rfl hlk hAe hw (Nat.le_of_ble_eq_true rfl) (Nat.le_of_ble_eq_true rfl) (⟨(upd ef 60 z10), (va_up (va_up (va_up ea 61 (upd (ea 61) z2.toNatClampNeg p0)) 61 (upd ((va_up ea 61 (upd (ea 61) z2.toNatClampNeg p0)) 61) z5.toNatClampNeg p1)) 61 (upd ((va_up (va_up ea 61 (upd (ea 61) z2.toNatClampNeg p0)) 61 (upd ((va_up ea 61 (upd (ea 61) z2.toNatClampNeg p0)) 61) z5.toNatClampNeg p1)) 61) z8.toNatClampNeg p2)), rfl, (show z11.toInt = (ef 60).toInt from by first | exact oz_9a9b2fbcd1 tz10 tz11 | omega), (show z10.toInt = (ef 60).toInt + 1 from by first | exact oz_037caa6b79 tz10 | omega), (show (ef 64).toInt = (ef 64).toInt from rfl), (show (ef 65).toInt = (ef 65).toInt from rfl), (show EmU ea (va_up (va_up (va_up ea 61 (upd (ea 61) z2.toNatClampNeg p0)) 61 (upd ((va_up ea 61 (upd (ea 61) z2.toNatClampNeg p0)) 61) z5.toNatClampNeg p1)) 61 (upd ((va_up (va_up ea 61 (upd (ea 61) z2.toNatClampNeg p0)) 61 (upd ((va_up ea 61 (upd (ea 61) z2.toNatClampNeg p0)) 61) z5.toNatClampNeg p1)) 61) z8.toNatClampNeg p2)) (ef 60) p0 p1 p2 from (emu_mk (x := z2) (y := z5) (z := z8) (by omega) (by omega) (by omega) (by omega) rfl rfl rfl))⟩) d_Mpg_emit_56
abbrev b_Mpg_land : ByteArray := prog_16_method_107_code
def y_Mpg_land : MethodName := ⟨"HomeSystemModel$Program", "land", "(I)V"⟩
theorem d_Mpg_land_0 : decode b_Mpg_land 0 = .ok (.aload_n 0, 1) := by decide +kernel
theorem d_Mpg_land_1 : decode b_Mpg_land 1 = .ok (.getfield 280, 3) := by decide +kernel
theorem d_Mpg_land_4 : decode b_Mpg_land 4 = .ok (.iconst 3, 1) := by decide +kernel
theorem d_Mpg_land_5 : decode b_Mpg_land 5 = .ok (.iload_n 1, 1) := by decide +kernel
theorem d_Mpg_land_6 : decode b_Mpg_land 6 = .ok (.imul, 1) := by decide +kernel
theorem d_Mpg_land_7 : decode b_Mpg_land 7 = .ok (.iconst 1, 1) := by decide +kernel
theorem d_Mpg_land_8 : decode b_Mpg_land 8 = .ok (.iadd, 1) := by decide +kernel
theorem d_Mpg_land_9 : decode b_Mpg_land 9 = .ok (.aload_n 0, 1) := by decide +kernel
theorem d_Mpg_land_10 : decode b_Mpg_land 10 = .ok (.getfield 708, 3) := by decide +kernel
theorem d_Mpg_land_13 : decode b_Mpg_land 13 = .ok (.iastore, 1) := by decide +kernel
theorem d_Mpg_land_14 : decode b_Mpg_land 14 = .ok (.return_, 1) := by decide +kernel
theorem q_Mpg_land : px_y y_Mpg_land 1 := by unfold px_y; decide +kernel
set_option maxHeartbeats 4000000 in
set_option maxRecDepth 100000 in
theorem c_mp_land (l : Launch) (D : va_G) (cs : Nat → ClassId) (h : Nat) (r : Nat → Nat) (g : Nat → Nat → Option Nat) (tf : Nat → Int32) (ta : Nat → Nat → Int32) (pf : Nat → Int32) (na : Nat → Nat → Int32) (ma : Nat → Nat → Int32) (wa : Nat → Nat → Int32) (cf : Nat → Int32) (ca : Nat → Nat → Int32) (ef : Nat → Int32) (xf : Nat → Int32) (xa : Nat → Nat → Int32) (ea : Nat → Nat → Int32) (p0 : Int32)  (g0 : 0 ≤ p0.toInt) (g1 : p0.toInt < 7000) : MetV l y_Mpg_land b_Mpg_land 2 D cs 0 0 (0) (0) [.ref h, .int p0] [wdP cs h r g tf ta pf na ma wa cf ca ef ea xf xa] (fun _ => True) (fun ps => ∃ (ea' : Nat → Nat → Int32), (ps = [wdP cs h r g tf ta pf na ma wa cf ca ef ea' xf xa]) ∧ (LaU ea ea' p0 (ef 60))) := by
  refine px_enter (by decide) (Nat.le_of_ble_eq_true rfl) ?_
  intro p e s m below meth c A ls hAe S hr hlk hnm hA hT hX hw hl
  replace hl : lv_has ls 2 [(0, .ref h), (1, .int p0)] := hl
  have lp0 := Int32.le_toInt p0
  have up0 := Int32.toInt_lt p0
  have cst1 : (1 : Int32).toInt = 1 := rfl
  have cst3 : (3 : Int32).toInt = 3 := rfl
  refine lv_aload_n S.x S.b d_Mpg_land_0 rfl (lv_at hl 0 rfl) ?_
  refine gP_61 S hT hw 0 rfl m10_58 d_Mpg_land_1 ?_
  refine lv_iconst (v := 3) S.x S.b d_Mpg_land_4 (by decide) ?_
  refine lv_iload_n S.x S.b d_Mpg_land_5 rfl (lv_at hl 1 rfl) ?_
  refine lv_imul S.x S.b d_Mpg_land_6 ?_
  refine lv_topi (fun z1 ez1 => ?_)
  have lz1 := Int32.le_toInt z1
  have uz1 := Int32.toInt_lt z1
  have tz1 : -2147483648 ≤ 3 * p0.toInt → 3 * p0.toInt < 2147483648 → z1.toInt = 3 * p0.toInt := by rw [ez1]; exact i_mulc 3 p0 (by decide)
  try replace tz1 : z1.toInt = 3 * p0.toInt := by omega
  refine lv_iconst (v := 1) S.x S.b d_Mpg_land_7 (by decide) ?_
  refine lv_iadd S.x S.b d_Mpg_land_8 ?_
  refine lv_topi (fun z2 ez2 => ?_)
  have tz2 : z2.toInt = (z1.toInt + (1 : Int) + 2147483648) % 4294967296 - 2147483648 := by rw [ez2]; exact i_add z1 1
  have lz2 := Int32.le_toInt z2
  have uz2 := Int32.toInt_lt z2
  try replace tz2 : z2.toInt = z1.toInt + (1 : Int) := by omega
  refine lv_aload_n S.x S.b d_Mpg_land_9 rfl (lv_at hl 0 rfl) ?_
  refine gP_60 (v := (ef 60)) S hT hw 0 rfl rfl m10_57 d_Mpg_land_10 ?_
  refine px_iast S hT hw 0 34 (n := 21000) (f := (ea 61)) (x := z2) (y := (ef 60)) rfl gp_61 (vp_in_iff.mpr (by constructor <;> omega)) d_Mpg_land_13 (w' := wdP cs h r g tf ta pf na ma wa cf ca ef (va_up ea 61 (upd (ea 61) z2.toNatClampNeg (ef 60))) xf xa) (ps' := [wdP cs h r g tf ta pf na ma wa cf ca ef (va_up ea 61 (upd (ea 61) z2.toNatClampNeg (ef 60))) xf xa]) sp_61 rfl (fun H locs hw => ?_)
  exact px_vret S hr hlk hAe hw (Nat.le_of_ble_eq_true rfl) (Nat.le_of_ble_eq_true rfl) (⟨(va_up ea 61 (upd (ea 61) z2.toNatClampNeg (ef 60))), rfl, (show LaU ea (va_up ea 61 (upd (ea 61) z2.toNatClampNeg (ef 60))) p0 (ef 60) from (lau_mk (y := z2) (by omega) (by omega) rfl))⟩) d_Mpg_land_14
abbrev b_Mpg_operatorOf : ByteArray := prog_16_method_109_code
def y_Mpg_operatorOf : MethodName := ⟨"HomeSystemModel$Program", "operatorOf", "(I)I"⟩
theorem d_Mpg_operatorOf_0 : decode b_Mpg_operatorOf 0 = .ok (.aload_n 0, 1) := by decide +kernel
theorem d_Mpg_operatorOf_1 : decode b_Mpg_operatorOf 1 = .ok (.getfield 204, 3) := by decide +kernel
theorem d_Mpg_operatorOf_4 : decode b_Mpg_operatorOf 4 = .ok (.iload_n 1, 1) := by decide +kernel
theorem d_Mpg_operatorOf_5 : decode b_Mpg_operatorOf 5 = .ok (.iaload, 1) := by decide +kernel
theorem d_Mpg_operatorOf_6 : decode b_Mpg_operatorOf 6 = .ok (.ireturn, 1) := by decide +kernel
theorem q_Mpg_operatorOf : px_y y_Mpg_operatorOf 1 := by unfold px_y; decide +kernel
set_option maxHeartbeats 4000000 in
set_option maxRecDepth 100000 in
theorem c_mp_operatorOf (l : Launch) (D : va_G) (cs : Nat → ClassId) (h : Nat) (r : Nat → Nat) (g : Nat → Nat → Option Nat) (tf : Nat → Int32) (ta : Nat → Nat → Int32) (pf : Nat → Int32) (na : Nat → Nat → Int32) (ma : Nat → Nat → Int32) (wa : Nat → Nat → Int32) (cf : Nat → Int32) (ca : Nat → Nat → Int32) (ef : Nat → Int32) (ea : Nat → Nat → Int32) (xf : Nat → Int32) (xa : Nat → Nat → Int32) (p0 : Int32)  (g0 : 0 ≤ p0.toInt) (g1 : p0.toInt < (tf 6).toInt) (g2 : (tf 6).toInt ≤ 2049) (g3 : so ta p0 = 5) (htk : TkI tf ta) : MetI l y_Mpg_operatorOf b_Mpg_operatorOf 2 (.int) D cs 0 0 (0) (0) [.ref h, .int p0] [wdP cs h r g tf ta pf na ma wa cf ca ef ea xf xa] (fun _ => True) (fun v ps => (ps = [wdP cs h r g tf ta pf na ma wa cf ca ef ea xf xa]) ∧ (0 ≤ v.toInt) ∧ (v.toInt ≤ 42)) := by
  refine px_enter (by decide) (Nat.le_of_ble_eq_true rfl) ?_
  intro p e s m below meth c A ls hAe S hr hlk hnm hA hT hX hw hl
  replace hl : lv_has ls 2 [(0, .ref h), (1, .int p0)] := hl
  have lp0 := Int32.le_toInt p0
  have up0 := Int32.toInt_lt p0
  refine lv_aload_n S.x S.b d_Mpg_operatorOf_0 rfl (lv_at hl 0 rfl) ?_
  refine gP_10 S hT hw 0 rfl m9_234 d_Mpg_operatorOf_1 ?_
  refine lv_iload_n S.x S.b d_Mpg_operatorOf_4 rfl (lv_at hl 1 rfl) ?_
  refine px_iald S hT hw 0 9 (n := 2060) (f := (ta 10)) rfl gp_10 (x := p0) (vp_in_iff.mpr (by first | exact oz_846323bf3a g0 g1 g2 | (constructor <;> omega))) d_Mpg_operatorOf_5 ?_
  refine lv_topi (fun z1 ez1 => ?_)
  have lz1 := Int32.le_toInt z1
  have uz1 := Int32.toInt_lt z1
  have hw5 := tk_w5 htk (x := p0) (by omega) (by omega) ez1 (by omega)
  exact px_iret (v := z1) S hr rfl hlk hAe hw (Nat.le_of_ble_eq_true rfl) (Nat.le_of_ble_eq_true rfl) (⟨rfl, (show 0 ≤ z1.toInt from by first | exact hw5.1 | omega), (show z1.toInt ≤ 42 from by first | exact oz_2466d5c0bc hw5.2.1 | omega)⟩) d_Mpg_operatorOf_6
abbrev b_Mpg_landAll : ByteArray := prog_16_method_108_code
def y_Mpg_landAll : MethodName := ⟨"HomeSystemModel$Program", "landAll", "(II)V"⟩
theorem d_Mpg_landAll_0 : decode b_Mpg_landAll 0 = .ok (.iload_n 1, 1) := by decide +kernel
theorem d_Mpg_landAll_1 : decode b_Mpg_landAll 1 = .ok (.istore_n 3, 1) := by decide +kernel
theorem d_Mpg_landAll_2 : decode b_Mpg_landAll 2 = .ok (.iload_n 3, 1) := by decide +kernel
theorem d_Mpg_landAll_3 : decode b_Mpg_landAll 3 = .ok (.ifCond .lt 32, 3) := by decide +kernel
theorem d_Mpg_landAll_6 : decode b_Mpg_landAll 6 = .ok (.aload_n 0, 1) := by decide +kernel
theorem d_Mpg_landAll_7 : decode b_Mpg_landAll 7 = .ok (.getfield 280, 3) := by decide +kernel
theorem d_Mpg_landAll_10 : decode b_Mpg_landAll 10 = .ok (.iconst 3, 1) := by decide +kernel
theorem d_Mpg_landAll_11 : decode b_Mpg_landAll 11 = .ok (.iload_n 3, 1) := by decide +kernel
theorem d_Mpg_landAll_12 : decode b_Mpg_landAll 12 = .ok (.imul, 1) := by decide +kernel
theorem d_Mpg_landAll_13 : decode b_Mpg_landAll 13 = .ok (.iconst 1, 1) := by decide +kernel
theorem d_Mpg_landAll_14 : decode b_Mpg_landAll 14 = .ok (.iadd, 1) := by decide +kernel
theorem d_Mpg_landAll_15 : decode b_Mpg_landAll 15 = .ok (.iaload, 1) := by decide +kernel
theorem d_Mpg_landAll_16 : decode b_Mpg_landAll 16 = .ok (.istore 4, 2) := by decide +kernel
theorem d_Mpg_landAll_18 : decode b_Mpg_landAll 18 = .ok (.aload_n 0, 1) := by decide +kernel
theorem d_Mpg_landAll_19 : decode b_Mpg_landAll 19 = .ok (.getfield 280, 3) := by decide +kernel
theorem d_Mpg_landAll_22 : decode b_Mpg_landAll 22 = .ok (.iconst 3, 1) := by decide +kernel
theorem d_Mpg_landAll_23 : decode b_Mpg_landAll 23 = .ok (.iload_n 3, 1) := by decide +kernel
theorem d_Mpg_landAll_24 : decode b_Mpg_landAll 24 = .ok (.imul, 1) := by decide +kernel
theorem d_Mpg_landAll_25 : decode b_Mpg_landAll 25 = .ok (.iconst 1, 1) := by decide +kernel
theorem d_Mpg_landAll_26 : decode b_Mpg_landAll 26 = .ok (.iadd, 1) := by decide +kernel
theorem d_Mpg_landAll_27 : decode b_Mpg_landAll 27 = .ok (.iload_n 2, 1) := by decide +kernel
theorem d_Mpg_landAll_28 : decode b_Mpg_landAll 28 = .ok (.iastore, 1) := by decide +kernel
theorem d_Mpg_landAll_29 : decode b_Mpg_landAll 29 = .ok (.iload 4, 2) := by decide +kernel
theorem d_Mpg_landAll_31 : decode b_Mpg_landAll 31 = .ok (.istore_n 3, 1) := by decide +kernel
theorem d_Mpg_landAll_32 : decode b_Mpg_landAll 32 = .ok (.goto (-30), 3) := by decide +kernel
theorem d_Mpg_landAll_35 : decode b_Mpg_landAll 35 = .ok (.return_, 1) := by decide +kernel
theorem q_Mpg_landAll : px_y y_Mpg_landAll 2 := by unfold px_y; decide +kernel
set_option maxHeartbeats 4000000 in
set_option maxRecDepth 100000 in
theorem c_mp_landAll (l : Launch) (D : va_G) (cs : Nat → ClassId) (n9 : Nat) (l9 : List Nat) (h : Nat) (r : Nat → Nat) (g : Nat → Nat → Option Nat) (tf : Nat → Int32) (ta : Nat → Nat → Int32) (pf : Nat → Int32) (na : Nat → Nat → Int32) (ma : Nat → Nat → Int32) (wa : Nat → Nat → Int32) (cf : Nat → Int32) (ca : Nat → Nat → Int32) (ef : Nat → Int32) (xf : Nat → Int32) (xa : Nat → Nat → Int32) (ea : Nat → Nat → Int32) (p0 p1 : Int32)  (g0 : n9 ≤ 7000) (hch : ChN (ea 61) p0 l9) (hdc : Dec9 n9 l9) : MetV l y_Mpg_landAll b_Mpg_landAll 5 D cs 0 0 (0) (0) [.ref h, .int p0, .int p1] [wdP cs h r g tf ta pf na ma wa cf ca ef ea xf xa] (fun _ => True) (fun ps => ∃ (ea' : Nat → Nat → Int32), (ps = [wdP cs h r g tf ta pf na ma wa cf ca ef ea' xf xa]) ∧ (EaK ea ea') ∧ (LaA (ea 61) (ea' 61) l9 p1)) := by
  refine px_enter (by decide) (Nat.le_of_ble_eq_true rfl) ?_
  intro p e s m below meth c A ls hAe S hr hlk hnm hA hT hX hw hl
  replace hl : lv_has ls 5 [(0, .ref h), (1, .int p0), (2, .int p1)] := hl
  have lp0 := Int32.le_toInt p0
  have up0 := Int32.toInt_lt p0
  have lp1 := Int32.le_toInt p1
  have up1 := Int32.toInt_lt p1
  have cst1 : (1 : Int32).toInt = 1 := rfl
  have cst3 : (3 : Int32).toInt = 3 := rfl
  have J2 : ∀ (n_2 : Nat) (ea_2 : Nat → Nat → Int32) (l1_2 : List Nat) (x2_3 : Int32) (H : Heap) (locs : List Loc) (ls : Array Slot), (EaK ea ea_2) → (LaL (ea 61) (ea_2 61) n9 l9 l1_2 x2_3 p1) → (l1_2.length : Int) < (n_2 : Int) → pw D A s.heap H locs [wdP cs h r g tf ta pf na ma wa cf ca ef ea_2 xf xa] → lv_has ls 5 [(0, .ref h), (1, .int p0), (2, .int p1), (3, .int x2_3)] → W p l e { frames := 0, cells := 0, slots := 0, locals := 0 } s m [.ref h, .int p0, .int p1].toArray below meth c H locs 0 0 (MQ below (va_Qv (fun ps => ∃ (ea' : Nat → Nat → Int32), (ps = [wdP cs h r g tf ta pf na ma wa cf ca ef ea' xf xa]) ∧ (EaK ea ea') ∧ (LaA (ea 61) (ea' 61) l9 p1)) (pc_B D (va_A ([wdP cs h r g tf ta pf na ma wa cf ca ef ea xf xa] : List va_W).flatten s.heap.size)) (va_A ([wdP cs h r g tf ta pf na ma wa cf ca ef ea xf xa] : List va_W).flatten s.heap.size)) [.ref h, .int p0, .int p1].toArray s 0 0 A) (F0 m 2 ls []) := by
    intro  n_2
    induction n_2 with
    | zero =>
      intro ea_2 l1_2 x2_3 H locs ls k2_0 k2_1 hm hw hl
      have lx2_3 := Int32.le_toInt x2_3
      have ux2_3 := Int32.toInt_lt x2_3
      have hek := k2_0
      have hll := k2_1
      exact absurd hm (by omega)
    | succ n_2 ih2 =>
      intro ea_2 l1_2 x2_3 H locs ls k2_0 k2_1 hm hw hl
      have lx2_3 := Int32.le_toInt x2_3
      have ux2_3 := Int32.toInt_lt x2_3
      have hek := k2_0
      have hll := k2_1
      refine lv_iload_n S.x S.b d_Mpg_landAll_2 rfl (lv_at hl 3 rfl) ?_
      refine lv_if_lt (tgt := 35) S.x S.b d_Mpg_landAll_3 (by decide) (fun c1 => ?_) (fun c1 => ?_)
      · have nc1 : x2_3.toInt < (0 : Int) := (i_lt (x := x2_3) (y := 0)).mp c1
        exact px_vret S hr hlk hAe hw (Nat.le_of_ble_eq_true rfl) (Nat.le_of_ble_eq_true rfl) (⟨ea_2, rfl, (show EaK ea ea_2 from hek), (show LaA (ea 61) (ea_2 61) l9 p1 from (LaL.nil hll (by omega)))⟩) d_Mpg_landAll_35
      · have nc1 : ¬ x2_3.toInt < (0 : Int) := mt (i_lt (x := x2_3) (y := 0)).mpr c1
        refine lv_aload_n S.x S.b d_Mpg_landAll_6 rfl (lv_at hl 0 rfl) ?_
        refine gP_61 S hT hw 0 rfl m10_58 d_Mpg_landAll_7 ?_
        obtain ⟨p9, l2, hl9, hp9, hp9n⟩ := LaL.at hll (by omega); subst hl9; have hlen : ((p9 :: l2).length : Int) = (l2.length : Int) + 1 := (by simp)
        refine lv_iconst (v := 3) S.x S.b d_Mpg_landAll_10 (by decide) ?_
        refine lv_iload_n S.x S.b d_Mpg_landAll_11 rfl (lv_at hl 3 rfl) ?_
        refine lv_imul S.x S.b d_Mpg_landAll_12 ?_
        refine lv_topi (fun z2 ez2 => ?_)
        have lz2 := Int32.le_toInt z2
        have uz2 := Int32.toInt_lt z2
        have tz2 : -2147483648 ≤ 3 * x2_3.toInt → 3 * x2_3.toInt < 2147483648 → z2.toInt = 3 * x2_3.toInt := by rw [ez2]; exact i_mulc 3 x2_3 (by decide)
        try replace tz2 : z2.toInt = 3 * x2_3.toInt := by omega
        refine lv_iconst (v := 1) S.x S.b d_Mpg_landAll_13 (by decide) ?_
        refine lv_iadd S.x S.b d_Mpg_landAll_14 ?_
        refine lv_topi (fun z3 ez3 => ?_)
        have tz3 : z3.toInt = (z2.toInt + (1 : Int) + 2147483648) % 4294967296 - 2147483648 := by rw [ez3]; exact i_add z2 1
        have lz3 := Int32.le_toInt z3
        have uz3 := Int32.toInt_lt z3
        try replace tz3 : z3.toInt = z2.toInt + (1 : Int) := by omega
        refine px_iald S hT hw 0 34 (n := 21000) (f := (ea_2 61)) rfl gp_61 (x := z3) (vp_in_iff.mpr (by first | exact oz_b5db004f6b tz3 tz2 nc1 hp9 hp9n g0 | (constructor <;> omega))) d_Mpg_landAll_15 ?_
        refine lv_topi (fun z4 ez4 => ?_)
        have lz4 := Int32.le_toInt z4
        have uz4 := Int32.toInt_lt z4
        refine lv_istore (lv' := [(4, .int z4), (0, .ref h), (1, .int p0), (2, .int p1), (3, .int x2_3)]) S.x S.b d_Mpg_landAll_16 hl (by decide) rfl (fun ls hl => ?_)
        refine lv_aload_n S.x S.b d_Mpg_landAll_18 rfl (lv_at hl 1 rfl) ?_
        refine gP_61 S hT hw 0 rfl m10_58 d_Mpg_landAll_19 ?_
        refine lv_iconst (v := 3) S.x S.b d_Mpg_landAll_22 (by decide) ?_
        refine lv_iload_n S.x S.b d_Mpg_landAll_23 rfl (lv_at hl 4 rfl) ?_
        refine lv_imul S.x S.b d_Mpg_landAll_24 ?_
        refine lv_topi (fun z5 ez5 => ?_)
        have lz5 := Int32.le_toInt z5
        have uz5 := Int32.toInt_lt z5
        have tz5 : -2147483648 ≤ 3 * x2_3.toInt → 3 * x2_3.toInt < 2147483648 → z5.toInt = 3 * x2_3.toInt := by rw [ez5]; exact i_mulc 3 x2_3 (by decide)
        try replace tz5 : z5.toInt = 3 * x2_3.toInt := by omega
        refine lv_iconst (v := 1) S.x S.b d_Mpg_landAll_25 (by decide) ?_
        refine lv_iadd S.x S.b d_Mpg_landAll_26 ?_
        refine lv_topi (fun z6 ez6 => ?_)
        have tz6 : z6.toInt = (z5.toInt + (1 : Int) + 2147483648) % 4294967296 - 2147483648 := by rw [ez6]; exact i_add z5 1
        have lz6 := Int32.le_toInt z6
        have uz6 := Int32.toInt_lt z6
        try replace tz6 : z6.toInt = z5.toInt + (1 : Int) := by omega
        refine lv_iload_n S.x S.b d_Mpg_landAll_27 rfl (lv_at hl 3 rfl) ?_
        refine px_iast S hT hw 0 34 (n := 21000) (f := (ea_2 61)) (x := z6) (y := p1) rfl gp_61 (vp_in_iff.mpr (by constructor <;> omega)) d_Mpg_landAll_28 (w' := wdP cs h r g tf ta pf na ma wa cf ca ef (va_up ea_2 61 (upd (ea_2 61) z6.toNatClampNeg p1)) xf xa) (ps' := [wdP cs h r g tf ta pf na ma wa cf ca ef (va_up ea_2 61 (upd (ea_2 61) z6.toNatClampNeg p1)) xf xa]) sp_61 rfl (fun H locs hw => ?_)
        refine lv_iload S.x S.b d_Mpg_landAll_29 (lv_at hl 0 rfl) ?_
        refine lv_istore_n (lv' := [(3, .int z4), (4, .int z4), (0, .ref h), (1, .int p0), (2, .int p1)]) S.x S.b d_Mpg_landAll_31 rfl hl (by decide) rfl (fun ls hl => ?_)
        refine lv_goto (tgt := 2) S.x S.b d_Mpg_landAll_32 (by decide) ?_
        exact ih2 (va_up ea_2 61 (upd (ea_2 61) z6.toNatClampNeg p1)) l2 z4 _ _ ls (show EaK ea (va_up ea_2 61 (upd (ea_2 61) z6.toNatClampNeg p1)) from (fun k9 h9 => (by rw [va_up_n h9]; exact hek k9 h9))) (show LaL (ea 61) ((va_up ea_2 61 (upd (ea_2 61) z6.toNatClampNeg p1)) 61) n9 l9 l2 z4 p1 from (LaL.nx hll ez4 (by omega) (by omega) (by rw [va_up_s, show z6 = z3 from i_eq.mpr (by omega)]))) (show (l2.length : Int) < (n_2 : Int) from by first | with_reducible rfl | with_reducible assumption | omega) hw (lv_sub hl [2, 3, 4, 0] rfl)
  refine lv_iload_n S.x S.b d_Mpg_landAll_0 rfl (lv_at hl 1 rfl) ?_
  refine lv_istore_n (lv' := [(3, .int p0), (0, .ref h), (1, .int p0), (2, .int p1)]) S.x S.b d_Mpg_landAll_1 rfl hl (by decide) rfl (fun ls hl => ?_)
  exact J2 (((l9.length : Int)).toNat + 1) ea l9 p0 _ _ ls (show EaK ea ea from (fun k9 h9 => rfl)) (show LaL (ea 61) (ea 61) n9 l9 l9 p0 p1 from (lal_0 hch hdc)) (show (l9.length : Int) < (((((l9.length : Int)).toNat + 1 : Nat) : Int) : Int) from by first | exact oz_natlt | omega) hw (lv_sub hl [1, 2, 3, 0] rfl)
