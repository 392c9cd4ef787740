theorem rt_def {rt : Nat → Int32} (h : RtOk rt) {x x1 x2 e f g d : Int32} (he : Lk e) (h0 : 0 ≤ x.toInt) (hx : x.toInt = 3 * d.toInt) (h1 : x1.toInt = x.toInt + 1) (h2 : x2.toInt = x.toInt + 2) : RtOk (upd (upd (upd rt x.toNatClampNeg e) x1.toNatClampNeg f) x2.toNatClampNeg g) := fun j => by
  have c0 := cl_nat (x := x) h0
  have c1 := cl_nat (x := x1) (by omega)
  have c2 := cl_nat (x := x2) (by omega)
  rw [pk_un (by omega), pk_un (by omega)]
  by_cases q : 3 * j = x.toNatClampNeg
  · rw [q, pk_us]; exact he
  · rw [pk_un q]; exact h j
abbrev b_Prg_define : ByteArray := prog_7_method_4_code
def y_Prg_define : MethodName := ⟨"HomeSystem$Program", "define", "(IIII)V"⟩
theorem d_Prg_define_0 : decode b_Prg_define 0 = .ok (.iconst 3, 1) := by decide +kernel
theorem d_Prg_define_1 : decode b_Prg_define 1 = .ok (.iload_n 1, 1) := by decide +kernel
theorem d_Prg_define_2 : decode b_Prg_define 2 = .ok (.imul, 1) := by decide +kernel
theorem d_Prg_define_3 : decode b_Prg_define 3 = .ok (.istore 5, 2) := by decide +kernel
theorem d_Prg_define_5 : decode b_Prg_define 5 = .ok (.aload_n 0, 1) := by decide +kernel
theorem d_Prg_define_6 : decode b_Prg_define 6 = .ok (.getfield 15, 3) := by decide +kernel
theorem d_Prg_define_9 : decode b_Prg_define 9 = .ok (.ifnull 49, 3) := by decide +kernel
theorem d_Prg_define_12 : decode b_Prg_define 12 = .ok (.iload 5, 2) := by decide +kernel
theorem d_Prg_define_14 : decode b_Prg_define 14 = .ok (.ifCond .lt 44, 3) := by decide +kernel
theorem d_Prg_define_17 : decode b_Prg_define 17 = .ok (.iload 5, 2) := by decide +kernel
theorem d_Prg_define_19 : decode b_Prg_define 19 = .ok (.iconst 3, 1) := by decide +kernel
theorem d_Prg_define_20 : decode b_Prg_define 20 = .ok (.iadd, 1) := by decide +kernel
theorem d_Prg_define_21 : decode b_Prg_define 21 = .ok (.aload_n 0, 1) := by decide +kernel
theorem d_Prg_define_22 : decode b_Prg_define 22 = .ok (.getfield 15, 3) := by decide +kernel
theorem d_Prg_define_25 : decode b_Prg_define 25 = .ok (.arraylength, 1) := by decide +kernel
theorem d_Prg_define_26 : decode b_Prg_define 26 = .ok (.if_icmp .gt 32, 3) := by decide +kernel
theorem d_Prg_define_29 : decode b_Prg_define 29 = .ok (.aload_n 0, 1) := by decide +kernel
theorem d_Prg_define_30 : decode b_Prg_define 30 = .ok (.getfield 15, 3) := by decide +kernel
theorem d_Prg_define_33 : decode b_Prg_define 33 = .ok (.iload 5, 2) := by decide +kernel
theorem d_Prg_define_35 : decode b_Prg_define 35 = .ok (.iload_n 2, 1) := by decide +kernel
theorem d_Prg_define_36 : decode b_Prg_define 36 = .ok (.iastore, 1) := by decide +kernel
theorem d_Prg_define_37 : decode b_Prg_define 37 = .ok (.aload_n 0, 1) := by decide +kernel
theorem d_Prg_define_38 : decode b_Prg_define 38 = .ok (.getfield 15, 3) := by decide +kernel
theorem d_Prg_define_41 : decode b_Prg_define 41 = .ok (.iload 5, 2) := by decide +kernel
theorem d_Prg_define_43 : decode b_Prg_define 43 = .ok (.iconst 1, 1) := by decide +kernel
theorem d_Prg_define_44 : decode b_Prg_define 44 = .ok (.iadd, 1) := by decide +kernel
theorem d_Prg_define_45 : decode b_Prg_define 45 = .ok (.iload_n 3, 1) := by decide +kernel
theorem d_Prg_define_46 : decode b_Prg_define 46 = .ok (.iastore, 1) := by decide +kernel
theorem d_Prg_define_47 : decode b_Prg_define 47 = .ok (.aload_n 0, 1) := by decide +kernel
theorem d_Prg_define_48 : decode b_Prg_define 48 = .ok (.getfield 15, 3) := by decide +kernel
theorem d_Prg_define_51 : decode b_Prg_define 51 = .ok (.iload 5, 2) := by decide +kernel
theorem d_Prg_define_53 : decode b_Prg_define 53 = .ok (.iconst 2, 1) := by decide +kernel
theorem d_Prg_define_54 : decode b_Prg_define 54 = .ok (.iadd, 1) := by decide +kernel
theorem d_Prg_define_55 : decode b_Prg_define 55 = .ok (.iload 4, 2) := by decide +kernel
theorem d_Prg_define_57 : decode b_Prg_define 57 = .ok (.iastore, 1) := by decide +kernel
theorem d_Prg_define_58 : decode b_Prg_define 58 = .ok (.return_, 1) := by decide +kernel
theorem q_Prg_define : px_y y_Prg_define 4 := by unfold px_y; decide +kernel
set_option maxHeartbeats 4000000 in
set_option maxRecDepth 100000 in
theorem c_pe_define (l : Launch) (D : va_G) (cs : Nat → ClassId) (hp : Nat) (rp : Nat → Nat) (fu : Nat) (fn : Nat) (fp : Nat → Int32) (ft : Nat → Int32) (p0 p1 p2 p3 : Int32)  (g0 : -1 ≤ p0.toInt) (g1 : p0.toInt ≤ 100000) (g2 : fn ≤ 1000000) (hrt : RtOk ft) (hlkd : Lk p1) : MetV l y_Prg_define b_Prg_define 6 D cs 0 0 (0) (0) [.ref hp, .int p0, .int p1, .int p2, .int p3] [wd_Prg cs hp rp (fun k => if k = 2 then (some fu) else none) fp (fun _ _ => 0) (fun _ _ => none), [(fu, .inl (cs 0, fn, .inl ft))]] (fun _ => True) (fun ps => ∃ (ft' : Nat → Int32), (ps = [wd_Prg cs hp rp (fun k => if k = 2 then (some fu) else none) fp (fun _ _ => 0) (fun _ _ => none), [(fu, .inl (cs 0, fn, .inl ft'))]]) ∧ (RtOk ft')) := by
  refine px_enter (by decide) (Nat.le_of_ble_eq_true rfl) ?_
  intro p e s m below meth c A ls hAe S hr hlk hnm hA hT hX hw hl
  have hl : lv_has ls 6 [(0, .ref hp), (1, .int p0), (2, .int p1), (3, .int p2), (4, .int p3)] := hl
  have lp0 := Int32.le_toInt p0
  have up0 := Int32.toInt_lt p0
  have lp1 := Int32.le_toInt p1
  have up1 := Int32.toInt_lt p1
  have lp2 := Int32.le_toInt p2
  have up2 := Int32.toInt_lt p2
  have lp3 := Int32.le_toInt p3
  have up3 := Int32.toInt_lt p3
  have cst1 : (1 : Int32).toInt = 1 := rfl
  have cst2 : (2 : Int32).toInt = 2 := rfl
  have cst3 : (3 : Int32).toInt = 3 := rfl
  have hfn : (nI fn).toInt = (fn : Int) := nI_toInt (by omega)
  refine lv_iconst (v := 3) S.x S.b d_Prg_define_0 (by decide) ?_
  refine lv_iload_n S.x S.b d_Prg_define_1 rfl (lv_at hl 1 rfl) ?_
  refine lv_imul S.x S.b d_Prg_define_2 ?_
  refine lv_topi (fun z1 ez1 => ?_)
  have lz1 := Int32.le_toInt z1
  have uz1 := Int32.toInt_lt z1
  have tz1 : -2147483648 ≤ 3 * p0.toInt → 3 * p0.toInt < 2147483648 → z1.toInt = 3 * p0.toInt := by rw [ez1]; exact i_mulc 3 p0 (by decide)
  try replace tz1 : z1.toInt = 3 * p0.toInt := by omega
  refine lv_istore (lv' := [(5, .int z1), (0, .ref hp), (1, .int p0), (2, .int p1), (3, .int p2), (4, .int p3)]) S.x S.b d_Prg_define_3 hl (by decide) rfl (fun ls hl => ?_)
  refine lv_aload_n S.x S.b d_Prg_define_5 rfl (lv_at hl 1 rfl) ?_
  refine px_get S k_Prg hT hw 0 0 2 (v := .ref fu) rfl rfl rfl (by decide) m2_103 d_Prg_define_6 ?_
  refine lv_ifnull S.x S.b d_Prg_define_9 ?_
  refine lv_iload S.x S.b d_Prg_define_12 (lv_at hl 0 rfl) ?_
  refine lv_if_lt (tgt := 58) S.x S.b d_Prg_define_14 (by decide) (fun c2 => ?_) (fun c2 => ?_)
  · have nc2 : z1.toInt < (0 : Int) := (i_lt (x := z1) (y := 0)).mp c2
    exact px_vret S hr hlk hAe hw (Nat.le_of_ble_eq_true rfl) (Nat.le_of_ble_eq_true rfl) (⟨ft, rfl, (show RtOk ft from (by first | exact hrt | exact hrtn))⟩) d_Prg_define_58
  · have nc2 : ¬ z1.toInt < (0 : Int) := mt (i_lt (x := z1) (y := 0)).mpr c2
    refine lv_iload S.x S.b d_Prg_define_17 (lv_at hl 0 rfl) ?_
    refine lv_iconst (v := 3) S.x S.b d_Prg_define_19 (by decide) ?_
    refine lv_iadd S.x S.b d_Prg_define_20 ?_
    refine lv_topi (fun z3 ez3 => ?_)
    have tz3 : z3.toInt = (z1.toInt + (3 : Int) + 2147483648) % 4294967296 - 2147483648 := by rw [ez3]; exact i_add z1 3
    have lz3 := Int32.le_toInt z3
    have uz3 := Int32.toInt_lt z3
    try replace tz3 : z3.toInt = z1.toInt + (3 : Int) := by omega
    refine lv_aload_n S.x S.b d_Prg_define_21 rfl (lv_at hl 1 rfl) ?_
    refine px_get S k_Prg hT hw 0 0 2 (v := .ref fu) rfl rfl rfl (by decide) m2_103 d_Prg_define_22 ?_
    refine px_len S hT hw 1 0 0 rfl rfl rfl (v := (nI fn)) rfl d_Prg_define_25 ?_
    refine lv_icmp_gt (tgt := 58) S.x S.b d_Prg_define_26 (by decide) (fun c4 => ?_) (fun c4 => ?_)
    · have nc4 : (nI fn).toInt < z3.toInt := (i_lt (x := (nI fn)) (y := z3)).mp c4
      exact px_vret S hr hlk hAe hw (Nat.le_of_ble_eq_true rfl) (Nat.le_of_ble_eq_true rfl) (⟨ft, rfl, (show RtOk ft from (by first | exact hrt | exact hrtn))⟩) d_Prg_define_58
    · have nc4 : ¬ (nI fn).toInt < z3.toInt := mt (i_lt (x := (nI fn)) (y := z3)).mpr c4
      refine lv_aload_n S.x S.b d_Prg_define_29 rfl (lv_at hl 1 rfl) ?_
      refine px_get S k_Prg hT hw 0 0 2 (v := .ref fu) rfl rfl rfl (by decide) m2_103 d_Prg_define_30 ?_
      refine lv_iload S.x S.b d_Prg_define_33 (lv_at hl 0 rfl) ?_
      refine lv_iload_n S.x S.b d_Prg_define_35 rfl (lv_at hl 3 rfl) ?_
      refine px_iast S hT hw 1 0 (n := fn) (f := ft) (x := z1) (y := p1) rfl rfl (vp_in_iff.mpr (by constructor <;> omega)) d_Prg_define_36 (w' := [(fu, .inl (cs 0, fn, .inl (upd ft z1.toNatClampNeg p1)))]) (ps' := [wd_Prg cs hp rp (fun k => if k = 2 then (some fu) else none) fp (fun _ _ => 0) (fun _ _ => none), [(fu, .inl (cs 0, fn, .inl (upd ft z1.toNatClampNeg p1)))]]) rfl rfl (fun H locs hw => ?_)
      refine lv_aload_n S.x S.b d_Prg_define_37 rfl (lv_at hl 1 rfl) ?_
      refine px_get S k_Prg hT hw 0 0 2 (v := .ref fu) rfl rfl rfl (by decide) m2_103 d_Prg_define_38 ?_
      refine lv_iload S.x S.b d_Prg_define_41 (lv_at hl 0 rfl) ?_
      refine lv_iconst (v := 1) S.x S.b d_Prg_define_43 (by decide) ?_
      refine lv_iadd S.x S.b d_Prg_define_44 ?_
      refine lv_topi (fun z5 ez5 => ?_)
      have tz5 : z5.toInt = (z1.toInt + (1 : Int) + 2147483648) % 4294967296 - 2147483648 := by rw [ez5]; exact i_add z1 1
      have lz5 := Int32.le_toInt z5
      have uz5 := Int32.toInt_lt z5
      try replace tz5 : z5.toInt = z1.toInt + (1 : Int) := by omega
      refine lv_iload_n S.x S.b d_Prg_define_45 rfl (lv_at hl 4 rfl) ?_
      refine px_iast S hT hw 1 0 (n := fn) (f := (upd ft z1.toNatClampNeg p1)) (x := z5) (y := p2) rfl rfl (vp_in_iff.mpr (by constructor <;> omega)) d_Prg_define_46 (w' := [(fu, .inl (cs 0, fn, .inl (upd (upd ft z1.toNatClampNeg p1) z5.toNatClampNeg p2)))]) (ps' := [wd_Prg cs hp rp (fun k => if k = 2 then (some fu) else none) fp (fun _ _ => 0) (fun _ _ => none), [(fu, .inl (cs 0, fn, .inl (upd (upd ft z1.toNatClampNeg p1) z5.toNatClampNeg p2)))]]) rfl rfl (fun H locs hw => ?_)
      refine lv_aload_n S.x S.b d_Prg_define_47 rfl (lv_at hl 1 rfl) ?_
      refine px_get S k_Prg hT hw 0 0 2 (v := .ref fu) rfl rfl rfl (by decide) m2_103 d_Prg_define_48 ?_
      refine lv_iload S.x S.b d_Prg_define_51 (lv_at hl 0 rfl) ?_
      refine lv_iconst (v := 2) S.x S.b d_Prg_define_53 (by decide) ?_
      refine lv_iadd S.x S.b d_Prg_define_54 ?_
      refine lv_topi (fun z6 ez6 => ?_)
      have tz6 : z6.toInt = (z1.toInt + (2 : Int) + 2147483648) % 4294967296 - 2147483648 := by rw [ez6]; exact i_add z1 2
      have lz6 := Int32.le_toInt z6
      have uz6 := Int32.toInt_lt z6
      try replace tz6 : z6.toInt = z1.toInt + (2 : Int) := by omega
      refine lv_iload S.x S.b d_Prg_define_55 (lv_at hl 5 rfl) ?_
      refine px_iast S hT hw 1 0 (n := fn) (f := (upd (upd ft z1.toNatClampNeg p1) z5.toNatClampNeg p2)) (x := z6) (y := p3) rfl rfl (vp_in_iff.mpr (by constructor <;> omega)) d_Prg_define_57 (w' := [(fu, .inl (cs 0, fn, .inl (upd (upd (upd ft z1.toNatClampNeg p1) z5.toNatClampNeg p2) z6.toNatClampNeg p3)))]) (ps' := [wd_Prg cs hp rp (fun k => if k = 2 then (some fu) else none) fp (fun _ _ => 0) (fun _ _ => none), [(fu, .inl (cs 0, fn, .inl (upd (upd (upd ft z1.toNatClampNeg p1) z5.toNatClampNeg p2) z6.toNatClampNeg p3)))]]) rfl rfl (fun H locs hw => ?_)
      have hrtn := rt_def (x := z1) (x1 := z5) (x2 := z6) (e := p1) (f := p2) (g := p3) (d := p0) hrt hlkd (by omega) (by omega) (by omega) (by omega)
      exact px_vret S hr hlk hAe hw (Nat.le_of_ble_eq_true rfl) (Nat.le_of_ble_eq_true rfl) (⟨(upd (upd (upd ft z1.toNatClampNeg p1) z5.toNatClampNeg p2) z6.toNatClampNeg p3), rfl, (show RtOk (upd (upd (upd ft z1.toNatClampNeg p1) z5.toNatClampNeg p2) z6.toNatClampNeg p3) from (by first | exact hrt | exact hrtn))⟩) d_Prg_define_58
abbrev b_Cmp_endFunction : ByteArray := prog_10_method_12_code
def y_Cmp_endFunction : MethodName := ⟨"HomeSystem$TextCompiler", "endFunction", "(II)V"⟩
theorem d_Cmp_endFunction_0 : decode b_Cmp_endFunction 0 = .ok (.aload_n 0, 1) := by decide +kernel
theorem d_Cmp_endFunction_1 : decode b_Cmp_endFunction 1 = .ok (.getfield 26, 3) := by decide +kernel
theorem d_Cmp_endFunction_4 : decode b_Cmp_endFunction 4 = .ok (.iconst 1, 1) := by decide +kernel
theorem d_Cmp_endFunction_5 : decode b_Cmp_endFunction 5 = .ok (.iconst 0, 1) := by decide +kernel
theorem d_Cmp_endFunction_6 : decode b_Cmp_endFunction 6 = .ok (.iconst 0, 1) := by decide +kernel
theorem d_Cmp_endFunction_7 : decode b_Cmp_endFunction 7 = .ok (.iconst 0, 1) := by decide +kernel
theorem d_Cmp_endFunction_8 : decode b_Cmp_endFunction 8 = .ok (.invokevirtual 176, 3) := by decide +kernel
theorem d_Cmp_endFunction_11 : decode b_Cmp_endFunction 11 = .ok (.pop, 1) := by decide +kernel
theorem d_Cmp_endFunction_12 : decode b_Cmp_endFunction 12 = .ok (.aload_n 0, 1) := by decide +kernel
theorem d_Cmp_endFunction_13 : decode b_Cmp_endFunction 13 = .ok (.getfield 26, 3) := by decide +kernel
theorem d_Cmp_endFunction_16 : decode b_Cmp_endFunction 16 = .ok (.bipush 24, 2) := by decide +kernel
theorem d_Cmp_endFunction_18 : decode b_Cmp_endFunction 18 = .ok (.iconst 0, 1) := by decide +kernel
theorem d_Cmp_endFunction_19 : decode b_Cmp_endFunction 19 = .ok (.iconst 0, 1) := by decide +kernel
theorem d_Cmp_endFunction_20 : decode b_Cmp_endFunction 20 = .ok (.iconst 0, 1) := by decide +kernel
theorem d_Cmp_endFunction_21 : decode b_Cmp_endFunction 21 = .ok (.invokevirtual 176, 3) := by decide +kernel
theorem d_Cmp_endFunction_24 : decode b_Cmp_endFunction 24 = .ok (.pop, 1) := by decide +kernel
theorem d_Cmp_endFunction_25 : decode b_Cmp_endFunction 25 = .ok (.iconst 4, 1) := by decide +kernel
theorem d_Cmp_endFunction_26 : decode b_Cmp_endFunction 26 = .ok (.aload_n 0, 1) := by decide +kernel
theorem d_Cmp_endFunction_27 : decode b_Cmp_endFunction 27 = .ok (.getfield 75, 3) := by decide +kernel
theorem d_Cmp_endFunction_30 : decode b_Cmp_endFunction 30 = .ok (.iadd, 1) := by decide +kernel
theorem d_Cmp_endFunction_31 : decode b_Cmp_endFunction 31 = .ok (.aload_n 0, 1) := by decide +kernel
theorem d_Cmp_endFunction_32 : decode b_Cmp_endFunction 32 = .ok (.getfield 247, 3) := by decide +kernel
theorem d_Cmp_endFunction_35 : decode b_Cmp_endFunction 35 = .ok (.iadd, 1) := by decide +kernel
theorem d_Cmp_endFunction_36 : decode b_Cmp_endFunction 36 = .ok (.istore_n 3, 1) := by decide +kernel
theorem d_Cmp_endFunction_37 : decode b_Cmp_endFunction 37 = .ok (.iload_n 3, 1) := by decide +kernel
theorem d_Cmp_endFunction_38 : decode b_Cmp_endFunction 38 = .ok (.sipush 8192, 3) := by decide +kernel
theorem d_Cmp_endFunction_41 : decode b_Cmp_endFunction 41 = .ok (.if_icmp .le 19, 3) := by decide +kernel
theorem d_Cmp_endFunction_44 : decode b_Cmp_endFunction 44 = .ok (.aload_n 0, 1) := by decide +kernel
theorem d_Cmp_endFunction_45 : decode b_Cmp_endFunction 45 = .ok (.getfield 18, 3) := by decide +kernel
theorem d_Cmp_endFunction_48 : decode b_Cmp_endFunction 48 = .ok (.bipush 13, 2) := by decide +kernel
theorem d_Cmp_endFunction_50 : decode b_Cmp_endFunction 50 = .ok (.aload_n 0, 1) := by decide +kernel
theorem d_Cmp_endFunction_51 : decode b_Cmp_endFunction 51 = .ok (.getfield 18, 3) := by decide +kernel
theorem d_Cmp_endFunction_54 : decode b_Cmp_endFunction 54 = .ok (.invokevirtual 167, 3) := by decide +kernel
theorem d_Cmp_endFunction_57 : decode b_Cmp_endFunction 57 = .ok (.invokevirtual 170, 3) := by decide +kernel
theorem d_Cmp_endFunction_60 : decode b_Cmp_endFunction 60 = .ok (.aload_n 0, 1) := by decide +kernel
theorem d_Cmp_endFunction_61 : decode b_Cmp_endFunction 61 = .ok (.getfield 26, 3) := by decide +kernel
theorem d_Cmp_endFunction_64 : decode b_Cmp_endFunction 64 = .ok (.aload_n 0, 1) := by decide +kernel
theorem d_Cmp_endFunction_65 : decode b_Cmp_endFunction 65 = .ok (.getfield 119, 3) := by decide +kernel
theorem d_Cmp_endFunction_68 : decode b_Cmp_endFunction 68 = .ok (.iconst 1, 1) := by decide +kernel
theorem d_Cmp_endFunction_69 : decode b_Cmp_endFunction 69 = .ok (.isub, 1) := by decide +kernel
theorem d_Cmp_endFunction_70 : decode b_Cmp_endFunction 70 = .ok (.iload_n 1, 1) := by decide +kernel
theorem d_Cmp_endFunction_71 : decode b_Cmp_endFunction 71 = .ok (.iload_n 3, 1) := by decide +kernel
theorem d_Cmp_endFunction_72 : decode b_Cmp_endFunction 72 = .ok (.iload_n 2, 1) := by decide +kernel
theorem d_Cmp_endFunction_73 : decode b_Cmp_endFunction 73 = .ok (.invokevirtual 265, 3) := by decide +kernel
theorem d_Cmp_endFunction_76 : decode b_Cmp_endFunction 76 = .ok (.aload_n 0, 1) := by decide +kernel
theorem d_Cmp_endFunction_77 : decode b_Cmp_endFunction 77 = .ok (.getfield 22, 3) := by decide +kernel
theorem d_Cmp_endFunction_80 : decode b_Cmp_endFunction 80 = .ok (.iconst 0, 1) := by decide +kernel
theorem d_Cmp_endFunction_81 : decode b_Cmp_endFunction 81 = .ok (.invokevirtual 269, 3) := by decide +kernel
theorem d_Cmp_endFunction_84 : decode b_Cmp_endFunction 84 = .ok (.aload_n 0, 1) := by decide +kernel
theorem d_Cmp_endFunction_85 : decode b_Cmp_endFunction 85 = .ok (.aconst_null, 1) := by decide +kernel
theorem d_Cmp_endFunction_86 : decode b_Cmp_endFunction 86 = .ok (.putfield 135, 3) := by decide +kernel
theorem d_Cmp_endFunction_89 : decode b_Cmp_endFunction 89 = .ok (.return_, 1) := by decide +kernel
theorem q_Cmp_endFunction : px_y y_Cmp_endFunction 2 := by unfold px_y; decide +kernel
set_option maxHeartbeats 4000000 in
set_option maxRecDepth 100000 in
theorem c_tc_endFunction (l : Launch) (D : va_G) (cs : Nat → ClassId) (em : Nat) (mi : Nat) (he : Nat) (re : Nat → Nat) (eo : Nat → Option Nat) (ef : Nat → Int32) (ea : Nat → Nat → Int32) (eg : Nat → Nat → Option Nat) (hc : Nat) (hs : Nat) (ra : Nat → Nat) (ca : Nat → Nat → Int32) (cf : Nat → Int32) (fo : Option Nat) (rt : Nat → Nat) (ot : Nat → Option Nat) (ta : Nat → Nat → Int32) (tg : Nat → Nat → Option Nat) (tf : Nat → Int32) (rp : Nat → Nat) (fu : Nat) (cn : Nat) (fn : Nat) (fp : Nat → Int32) (cd : Nat → Int32) (ft : Nat → Int32) (rn : Nat → Nat) (no : Nat → Option Nat) (ng : Nat → Nat → Option Nat) (na : Nat → Nat → Int32) (own : Bool) (lq : Nat) (lc : Nat) (fq : Nat) (fc : Nat) (ff : Nat → Int32) (fg : Nat → Option Nat) (P : va_W) (nf : Nat → Int32) (lf : Nat → Int32) (lg : Nat → Option Nat) (p0 p1 : Int32)  (hinv0 : CmOk P (cf 7) (cf 8) (cf 10) (ca 6) fo) (hinv1 : CurOk (tf 10) (tf 13) (tf 14) (tf 15) (tf 17) (ta 0)) (hinv2 : NmI em P own (lf 1) (ff 1) (nf 3) (nf 4) lq lc fc lg fg) (g0 : cn % 4 = 0) (g1 : cn ≤ 100000) (g2 : fn ≤ 1000000) (g3 : 0 ≤ p0.toInt) (g4 : p0.toInt % 4 = 0) (g5 : p0.toInt ≤ 100000) (hpk : Pok cn (fp 3) cd) (hrt : RtOk ft) : MetV l y_Cmp_endFunction b_Cmp_endFunction 4 D cs 4 180 (0) (0) [.ref hc, .int p0, .int p1] [wd_Exp cs he re eo ef ea eg, wd_Cmp cs hc (fun k => if k = 0 then re 0 else if k = 1 then re 1 else if k = 2 then he else if k = 3 then re 2 else if k = 4 then hs else ra k) (fun k => if k = 9 then fo else none) cf ca (fun _ _ => none), wd_Tok cs (re 0) rt ot tf ta tg, wd_Prg cs (re 2) rp (fun k => if k = 2 then (some fu) else none) fp (fun _ _ => 0) (fun _ _ => none), [((rp 1), .inl (cs 0, cn, .inl cd))], [(fu, .inl (cs 0, fn, .inl ft))], wd_Nam cs (re 1) rn no nf na ng, wd_Lst cs (rn 0) (fun _ => 0) (fun k => if k = 0 then (some lq) else none) lf (fun _ _ => 0) (fun _ _ => none), lA cs own lq lc lg, wd_Lst cs (rn 1) (fun _ => 0) (fun k => if k = 0 then (some fq) else none) ff (fun _ _ => 0) (fun _ _ => none), [(fq, .inl (cs 12, fc, .inr (.inr (.inr (.inr fg)))))], P] (oX (fun A U H => (oE A em U H) ∧ (va_Mi "[Ljava/lang/Object;" mi U)) [wd_Exp cs he re eo ef ea eg, wd_Cmp cs hc (fun k => if k = 0 then re 0 else if k = 1 then re 1 else if k = 2 then he else if k = 3 then re 2 else if k = 4 then hs else ra k) (fun k => if k = 9 then fo else none) cf ca (fun _ _ => none), wd_Tok cs (re 0) rt ot tf ta tg, wd_Prg cs (re 2) rp (fun k => if k = 2 then (some fu) else none) fp (fun _ _ => 0) (fun _ _ => none), [((rp 1), .inl (cs 0, cn, .inl cd))], [(fu, .inl (cs 0, fn, .inl ft))], wd_Nam cs (re 1) rn no nf na ng, wd_Lst cs (rn 0) (fun _ => 0) (fun k => if k = 0 then (some lq) else none) lf (fun _ _ => 0) (fun _ _ => none), lA cs own lq lc lg, wd_Lst cs (rn 1) (fun _ => 0) (fun k => if k = 0 then (some fq) else none) ff (fun _ _ => 0) (fun _ _ => none), [(fq, .inl (cs 12, fc, .inr (.inr (.inr (.inr fg)))))], P]) (fun ps => ∃ (cf' : Nat → Int32) (fo' : Option Nat) (tf' : Nat → Int32) (fp' : Nat → Int32) (cd' : Nat → Int32) (ft' : Nat → Int32) (nf' : Nat → Int32) (lf' : Nat → Int32) (lg' : Nat → Option Nat), (ps = [wd_Exp cs he re eo ef ea eg, wd_Cmp cs hc (fun k => if k = 0 then re 0 else if k = 1 then re 1 else if k = 2 then he else if k = 3 then re 2 else if k = 4 then hs else ra k) (fun k => if k = 9 then fo' else none) cf' ca (fun _ _ => none), wd_Tok cs (re 0) rt ot tf' ta tg, wd_Prg cs (re 2) rp (fun k => if k = 2 then (some fu) else none) fp' (fun _ _ => 0) (fun _ _ => none), [((rp 1), .inl (cs 0, cn, .inl cd'))], [(fu, .inl (cs 0, fn, .inl ft'))], wd_Nam cs (re 1) rn no nf' na ng, wd_Lst cs (rn 0) (fun _ => 0) (fun k => if k = 0 then (some lq) else none) lf' (fun _ _ => 0) (fun _ _ => none), lA cs own lq lc lg', wd_Lst cs (rn 1) (fun _ => 0) (fun k => if k = 0 then (some fq) else none) ff (fun _ _ => 0) (fun _ _ => none), [(fq, .inl (cs 12, fc, .inr (.inr (.inr (.inr fg)))))], P]) ∧ (CmOk P (cf' 7) (cf' 8) (cf' 10) (ca 6) fo') ∧ (CurOk (tf' 10) (tf' 13) (tf' 14) (tf' 15) (tf' 17) (ta 0)) ∧ (NmI em P own (lf' 1) (ff 1) (nf' 3) (nf' 4) lq lc fc lg' fg) ∧ ((tf' 10).toInt = (tf 10).toInt) ∧ ((tf' 13).toInt = (tf 13).toInt) ∧ ((tf' 14).toInt = (tf 14).toInt) ∧ ((tf' 15).toInt = (tf 15).toInt) ∧ (Prel cn (fp 3) cd (fp' 3) cd') ∧ (RtOk ft') ∧ ((cf' 7).toInt = (cf 7).toInt) ∧ ((cf' 8).toInt = (cf 8).toInt) ∧ ((cf' 10).toInt = (cf 10).toInt) ∧ ((cf' 16).toInt = (cf 16).toInt) ∧ ((cf' 17).toInt = (cf 17).toInt) ∧ ((lf' 1).toInt ≤ (lf 1).toInt) ∧ ((ff 1).toInt = (ff 1).toInt) ∧ ((nf' 3).toInt = (nf 3).toInt) ∧ ((fp' 3).toInt ≤ (fp 3).toInt + 190 * ((tf' 13).toInt - (tf 13).toInt) + 40 + 300000 * (tf' 15).toInt)) := by
  refine px_enter (by decide) (Nat.le_of_ble_eq_true rfl) ?_
  intro p e s m below meth c A ls hAe S hr hlk hnm hA hT hX hw hl
  have hl : lv_has ls 4 [(0, .ref hc), (1, .int p0), (2, .int p1)] := hl
  have lp0 := Int32.le_toInt p0
  have up0 := Int32.toInt_lt p0
  have lp1 := Int32.le_toInt p1
  have up1 := Int32.toInt_lt p1
  have cst0 : (0 : Int32).toInt = 0 := rfl
  have cst1 : (1 : Int32).toInt = 1 := rfl
  have cst4 : (4 : Int32).toInt = 4 := rfl
  have cst13 : (13 : Int32).toInt = 13 := rfl
  have cst24 : (24 : Int32).toInt = 24 := rfl
  have cst8192 : (8192 : Int32).toInt = 8192 := rfl
  have hX : (fun A U H => (oE A em U H) ∧ (va_Mi "[Ljava/lang/Object;" mi U)) A s s.heap := by rw [hAe]; exact hX
  obtain ⟨hE, hM⟩ := hX
  obtain ⟨⟨q1, q2⟩, ⟨q3, q4⟩, ⟨q5, q6⟩, hct, hfo⟩ := hinv0
  obtain ⟨⟨o1, o2⟩, ⟨o3, o4⟩, ⟨o5, o6⟩, o7, o8, hlast⟩ := hinv1; replace o8 := cur8 o5 o6 o8
  obtain ⟨⟨hown, ⟨n1, n2, n3⟩, hEl, ⟨n4, n5, n6⟩, hEf⟩, hne, hnt, ⟨hfc, hlb, hfb⟩, ⟨hw0, hw1⟩, hsc, hEg, hk10⟩ := hinv2
  have la_tf := Int32.le_toInt (tf 14)
  have ua_tf := Int32.toInt_lt (tf 14)
  have hrel := Prel.rf hpk
  have pz0 := hrel.nm
  have J60 : ∀ (cf_60 : Nat → Int32) (fo_60 : Option Nat) (tf_60 : Nat → Int32) (fp_60 : Nat → Int32) (cd_60 : Nat → Int32) (ft_60 : Nat → Int32) (nf_60 : Nat → Int32) (lf_60 : Nat → Int32) (lg_60 : Nat → Option Nat) (x60_3 : Int32) (H : Heap) (locs : List Loc) (ls : Array Slot), (CmOk P (cf_60 7) (cf_60 8) (cf_60 10) (ca 6) fo_60) → (CurOk (tf_60 10) (tf_60 13) (tf_60 14) (tf_60 15) (tf_60 17) (ta 0)) → (NmI em P own (lf_60 1) (ff 1) (nf_60 3) (nf_60 4) lq lc fc lg_60 fg) → ((tf_60 10).toInt = (tf 10).toInt) → ((tf_60 13).toInt = (tf 13).toInt) → ((tf_60 14).toInt = (tf 14).toInt) → ((tf_60 15).toInt = (tf 15).toInt) → (Prel cn (fp 3) cd (fp_60 3) cd_60) → (RtOk ft_60) → ((cf_60 7).toInt = (cf 7).toInt) → ((cf_60 8).toInt = (cf 8).toInt) → ((cf_60 10).toInt = (cf 10).toInt) → ((cf_60 16).toInt = (cf 16).toInt) → ((cf_60 17).toInt = (cf 17).toInt) → ((lf_60 1).toInt = (lf 1).toInt) → ((ff 1).toInt = (ff 1).toInt) → ((nf_60 3).toInt = (nf 3).toInt) → ((fp_60 3).toInt ≤ (fp 3).toInt + 190 * ((tf_60 13).toInt - (tf 13).toInt) + 40 + 300000 * (tf_60 15).toInt) → pw D A s.heap H locs [wd_Exp cs he re eo ef ea eg, wd_Cmp cs hc (fun k => if k = 0 then re 0 else if k = 1 then re 1 else if k = 2 then he else if k = 3 then re 2 else if k = 4 then hs else ra k) (fun k => if k = 9 then fo_60 else none) cf_60 ca (fun _ _ => none), wd_Tok cs (re 0) rt ot tf_60 ta tg, wd_Prg cs (re 2) rp (fun k => if k = 2 then (some fu) else none) fp_60 (fun _ _ => 0) (fun _ _ => none), [((rp 1), .inl (cs 0, cn, .inl cd_60))], [(fu, .inl (cs 0, fn, .inl ft_60))], wd_Nam cs (re 1) rn no nf_60 na ng, wd_Lst cs (rn 0) (fun _ => 0) (fun k => if k = 0 then (some lq) else none) lf_60 (fun _ _ => 0) (fun _ _ => none), lA cs own lq lc lg_60, wd_Lst cs (rn 1) (fun _ => 0) (fun k => if k = 0 then (some fq) else none) ff (fun _ _ => 0) (fun _ _ => none), [(fq, .inl (cs 12, fc, .inr (.inr (.inr (.inr fg)))))], P] → lv_has ls 4 [(0, .ref hc), (1, .int p0), (2, .int p1), (3, .int x60_3)] → W p l e { frames := 4, cells := 0, slots := 0, locals := 180 } s m [.ref hc, .int p0, .int p1].toArray below meth c H locs 0 0 (MQ below (va_Qv (fun ps => ∃ (cf' : Nat → Int32) (fo' : Option Nat) (tf' : Nat → Int32) (fp' : Nat → Int32) (cd' : Nat → Int32) (ft' : Nat → Int32) (nf' : Nat → Int32) (lf' : Nat → Int32) (lg' : Nat → Option Nat), (ps = [wd_Exp cs he re eo ef ea eg, wd_Cmp cs hc (fun k => if k = 0 then re 0 else if k = 1 then re 1 else if k = 2 then he else if k = 3 then re 2 else if k = 4 then hs else ra k) (fun k => if k = 9 then fo' else none) cf' ca (fun _ _ => none), wd_Tok cs (re 0) rt ot tf' ta tg, wd_Prg cs (re 2) rp (fun k => if k = 2 then (some fu) else none) fp' (fun _ _ => 0) (fun _ _ => none), [((rp 1), .inl (cs 0, cn, .inl cd'))], [(fu, .inl (cs 0, fn, .inl ft'))], wd_Nam cs (re 1) rn no nf' na ng, wd_Lst cs (rn 0) (fun _ => 0) (fun k => if k = 0 then (some lq) else none) lf' (fun _ _ => 0) (fun _ _ => none), lA cs own lq lc lg', wd_Lst cs (rn 1) (fun _ => 0) (fun k => if k = 0 then (some fq) else none) ff (fun _ _ => 0) (fun _ _ => none), [(fq, .inl (cs 12, fc, .inr (.inr (.inr (.inr fg)))))], P]) ∧ (CmOk P (cf' 7) (cf' 8) (cf' 10) (ca 6) fo') ∧ (CurOk (tf' 10) (tf' 13) (tf' 14) (tf' 15) (tf' 17) (ta 0)) ∧ (NmI em P own (lf' 1) (ff 1) (nf' 3) (nf' 4) lq lc fc lg' fg) ∧ ((tf' 10).toInt = (tf 10).toInt) ∧ ((tf' 13).toInt = (tf 13).toInt) ∧ ((tf' 14).toInt = (tf 14).toInt) ∧ ((tf' 15).toInt = (tf 15).toInt) ∧ (Prel cn (fp 3) cd (fp' 3) cd') ∧ (RtOk ft') ∧ ((cf' 7).toInt = (cf 7).toInt) ∧ ((cf' 8).toInt = (cf 8).toInt) ∧ ((cf' 10).toInt = (cf 10).toInt) ∧ ((cf' 16).toInt = (cf 16).toInt) ∧ ((cf' 17).toInt = (cf 17).toInt) ∧ ((lf' 1).toInt ≤ (lf 1).toInt) ∧ ((ff 1).toInt = (ff 1).toInt) ∧ ((nf' 3).toInt = (nf 3).toInt) ∧ ((fp' 3).toInt ≤ (fp 3).toInt + 190 * ((tf' 13).toInt - (tf 13).toInt) + 40 + 300000 * (tf' 15).toInt)) (pc_B D (va_A ([wd_Exp cs he re eo ef ea eg, wd_Cmp cs hc (fun k => if k = 0 then re 0 else if k = 1 then re 1 else if k = 2 then he else if k = 3 then re 2 else if k = 4 then hs else ra k) (fun k => if k = 9 then fo else none) cf ca (fun _ _ => none), wd_Tok cs (re 0) rt ot tf ta tg, wd_Prg cs (re 2) rp (fun k => if k = 2 then (some fu) else none) fp (fun _ _ => 0) (fun _ _ => none), [((rp 1), .inl (cs 0, cn, .inl cd))], [(fu, .inl (cs 0, fn, .inl ft))], wd_Nam cs (re 1) rn no nf na ng, wd_Lst cs (rn 0) (fun _ => 0) (fun k => if k = 0 then (some lq) else none) lf (fun _ _ => 0) (fun _ _ => none), lA cs own lq lc lg, wd_Lst cs (rn 1) (fun _ => 0) (fun k => if k = 0 then (some fq) else none) ff (fun _ _ => 0) (fun _ _ => none), [(fq, .inl (cs 12, fc, .inr (.inr (.inr (.inr fg)))))], P] : List va_W).flatten s.heap.size)) (va_A ([wd_Exp cs he re eo ef ea eg, wd_Cmp cs hc (fun k => if k = 0 then re 0 else if k = 1 then re 1 else if k = 2 then he else if k = 3 then re 2 else if k = 4 then hs else ra k) (fun k => if k = 9 then fo else none) cf ca (fun _ _ => none), wd_Tok cs (re 0) rt ot tf ta tg, wd_Prg cs (re 2) rp (fun k => if k = 2 then (some fu) else none) fp (fun _ _ => 0) (fun _ _ => none), [((rp 1), .inl (cs 0, cn, .inl cd))], [(fu, .inl (cs 0, fn, .inl ft))], wd_Nam cs (re 1) rn no nf na ng, wd_Lst cs (rn 0) (fun _ => 0) (fun k => if k = 0 then (some lq) else none) lf (fun _ _ => 0) (fun _ _ => none), lA cs own lq lc lg, wd_Lst cs (rn 1) (fun _ => 0) (fun k => if k = 0 then (some fq) else none) ff (fun _ _ => 0) (fun _ _ => none), [(fq, .inl (cs 12, fc, .inr (.inr (.inr (.inr fg)))))], P] : List va_W).flatten s.heap.size)) [.ref hc, .int p0, .int p1].toArray s 0 0 A) (F0 m 60 ls []) := by
    intro cf_60 fo_60 tf_60 fp_60 cd_60 ft_60 nf_60 lf_60 lg_60 x60_3 H locs ls hi60_0 hi60_1 hi60_2 k60_0 k60_1 k60_2 k60_3 k60_4 k60_5 k60_6 k60_7 k60_8 k60_9 k60_10 k60_11 k60_12 k60_13 k60_14 hw hl
    obtain ⟨⟨q1, q2⟩, ⟨q3, q4⟩, ⟨q5, q6⟩, hct, hfo⟩ := hi60_0
    obtain ⟨⟨o1, o2⟩, ⟨o3, o4⟩, ⟨o5, o6⟩, o7, o8, hlast⟩ := hi60_1; replace o8 := cur8 o5 o6 o8
    obtain ⟨⟨hown, ⟨n1, n2, n3⟩, hEl, ⟨n4, n5, n6⟩, hEf⟩, hne, hnt, ⟨hfc, hlb, hfb⟩, ⟨hw0, hw1⟩, hsc, hEg, hk10⟩ := hi60_2
    have la_tf_60 := Int32.le_toInt (tf_60 14)
    have ua_tf_60 := Int32.toInt_lt (tf_60 14)
    have lx60_3 := Int32.le_toInt x60_3
    have ux60_3 := Int32.toInt_lt x60_3
    have hrel := k60_4
    have pz60 := hrel.nm
    have hrt := k60_5
    refine lv_aload_n S.x S.b d_Cmp_endFunction_60 rfl (lv_at hl 0 rfl) ?_
    refine px_get S k_Cmp hT hw 1 0 3 (v := .ref (re 2)) rfl rfl rfl (by decide) m2_152 d_Cmp_endFunction_61 ?_
    refine lv_aload_n S.x S.b d_Cmp_endFunction_64 rfl (lv_at hl 0 rfl) ?_
    refine px_get S k_Cmp hT hw 1 0 10 (v := .int (cf_60 10)) rfl rfl rfl (by decide) m2_159 d_Cmp_endFunction_65 ?_
    refine lv_iconst (v := 1) S.x S.b d_Cmp_endFunction_68 (by decide) ?_
    refine lv_isub S.x S.b d_Cmp_endFunction_69 ?_
    have lr1 := Int32.le_toInt (cf_60 10)
    have ur1 := Int32.toInt_lt (cf_60 10)
    refine lv_topi (fun z2 ez2 => ?_)
    have tz2 : z2.toInt = ((cf_60 10).toInt - (1 : Int) + 2147483648) % 4294967296 - 2147483648 := by rw [ez2]; exact i_sub (cf_60 10) 1
    have lz2 := Int32.le_toInt z2
    have uz2 := Int32.toInt_lt z2
    try replace tz2 : z2.toInt = (cf_60 10).toInt - (1 : Int) := by omega
    refine lv_iload_n S.x S.b d_Cmp_endFunction_70 rfl (lv_at hl 1 rfl) ?_
    refine lv_iload_n S.x S.b d_Cmp_endFunction_71 rfl (lv_at hl 3 rfl) ?_
    refine lv_iload_n S.x S.b d_Cmp_endFunction_72 rfl (lv_at hl 2 rfl) ?_
    have hw : pw D A s.heap _ _ [wd_Exp cs he re eo ef ea eg, wd_Cmp cs hc (fun k => if k = 0 then re 0 else if k = 1 then re 1 else if k = 2 then he else if k = 3 then re 2 else if k = 4 then hs else ra k) (fun k => if k = 9 then fo_60 else none) cf_60 ca (fun _ _ => none), wd_Tok cs (re 0) rt ot tf_60 ta tg, [((rp 1), .inl (cs 0, cn, .inl cd_60))], wd_Nam cs (re 1) rn no nf_60 na ng, wd_Lst cs (rn 0) (fun _ => 0) (fun k => if k = 0 then (some lq) else none) lf_60 (fun _ _ => 0) (fun _ _ => none), lA cs own lq lc lg_60, wd_Lst cs (rn 1) (fun _ => 0) (fun k => if k = 0 then (some fq) else none) ff (fun _ _ => 0) (fun _ _ => none), [(fq, .inl (cs 12, fc, .inr (.inr (.inr (.inr fg)))))], P, wd_Prg cs (re 2) rp (fun k => if k = 2 then (some fu) else none) fp_60 (fun _ _ => 0) (fun _ _ => none), [(fu, .inl (cs 0, fn, .inl ft_60))]] := hw.sub [0, 1, 2, 4, 6, 7, 8, 9, 10, 11, 3, 5] rfl rfl
    refine px_callv (pr := [wd_Exp cs he re eo ef ea eg, wd_Cmp cs hc (fun k => if k = 0 then re 0 else if k = 1 then re 1 else if k = 2 then he else if k = 3 then re 2 else if k = 4 then hs else ra k) (fun k => if k = 9 then fo_60 else none) cf_60 ca (fun _ _ => none), wd_Tok cs (re 0) rt ot tf_60 ta tg, [((rp 1), .inl (cs 0, cn, .inl cd_60))], wd_Nam cs (re 1) rn no nf_60 na ng, wd_Lst cs (rn 0) (fun _ => 0) (fun k => if k = 0 then (some lq) else none) lf_60 (fun _ _ => 0) (fun _ _ => none), lA cs own lq lc lg_60, wd_Lst cs (rn 1) (fun _ => 0) (fun k => if k = 0 then (some fq) else none) ff (fun _ _ => 0) (fun _ _ => none), [(fq, .inl (cs 12, fc, .inr (.inr (.inr (.inr fg)))))], P]) (px_runV (As := [.int z2, .int p0, .int x60_3, .int p1]) (rest := []) S (c_pe_define l D cs (re 2) rp fu fn fp_60 ft_60 z2 p0 x60_3 p1  (show -1 ≤ z2.toInt from by omega) (show z2.toInt ≤ 100000 from by omega) (show fn ≤ 1000000 from by omega) (by first | exact hrt | exact hrtn) (lk_mk (by omega)) _) hT (pr := [wd_Exp cs he re eo ef ea eg, wd_Cmp cs hc (fun k => if k = 0 then re 0 else if k = 1 then re 1 else if k = 2 then he else if k = 3 then re 2 else if k = 4 then hs else ra k) (fun k => if k = 9 then fo_60 else none) cf_60 ca (fun _ _ => none), wd_Tok cs (re 0) rt ot tf_60 ta tg, [((rp 1), .inl (cs 0, cn, .inl cd_60))], wd_Nam cs (re 1) rn no nf_60 na ng, wd_Lst cs (rn 0) (fun _ => 0) (fun k => if k = 0 then (some lq) else none) lf_60 (fun _ _ => 0) (fun _ _ => none), lA cs own lq lc lg_60, wd_Lst cs (rn 1) (fun _ => 0) (fun k => if k = 0 then (some fq) else none) ff (fun _ _ => 0) (fun _ _ => none), [(fq, .inl (cs 12, fc, .inr (.inr (.inr (.inr fg)))))], P]) (pcs := [wd_Prg cs (re 2) rp (fun k => if k = 2 then (some fu) else none) fp_60 (fun _ _ => 0) (fun _ _ => none), [(fu, .inl (cs 0, fn, .inl ft_60))]]) hw px_X.tt (px_recv hT hw 10 0 rfl rfl rfl) m6_38 m6_35 m6_36 m6_37 m1_16 q_Prg_define ⟨Nat.le_of_ble_eq_true rfl, Nat.le_of_ble_eq_true rfl⟩ hl.1 rfl (Nat.le_of_ble_eq_true rfl) d_Cmp_endFunction_73 ⟨Nat.le_of_ble_eq_true rfl, Nat.le_of_ble_eq_true rfl⟩) hw hA (fun p5 H locs hp5 hw => ?_)
    obtain ⟨ft4, rfl, e7⟩ := hp5
    have e7 : RtOk ft4 := e7
    have hrt := e7
    have hw : pw D A s.heap H locs [wd_Exp cs he re eo ef ea eg, wd_Cmp cs hc (fun k => if k = 0 then re 0 else if k = 1 then re 1 else if k = 2 then he else if k = 3 then re 2 else if k = 4 then hs else ra k) (fun k => if k = 9 then fo_60 else none) cf_60 ca (fun _ _ => none), wd_Tok cs (re 0) rt ot tf_60 ta tg, [((rp 1), .inl (cs 0, cn, .inl cd_60))], wd_Nam cs (re 1) rn no nf_60 na ng, wd_Lst cs (rn 0) (fun _ => 0) (fun k => if k = 0 then (some lq) else none) lf_60 (fun _ _ => 0) (fun _ _ => none), lA cs own lq lc lg_60, wd_Lst cs (rn 1) (fun _ => 0) (fun k => if k = 0 then (some fq) else none) ff (fun _ _ => 0) (fun _ _ => none), [(fq, .inl (cs 12, fc, .inr (.inr (.inr (.inr fg)))))], P, wd_Prg cs (re 2) rp (fun k => if k = 2 then (some fu) else none) fp_60 (fun _ _ => 0) (fun _ _ => none), [(fu, .inl (cs 0, fn, .inl ft4))]] := hw
    refine lv_aload_n S.x S.b d_Cmp_endFunction_76 rfl (lv_at hl 0 rfl) ?_
    refine px_get S k_Cmp hT hw 1 0 1 (v := .ref (re 1)) rfl rfl rfl (by decide) m2_150 d_Cmp_endFunction_77 ?_
    refine lv_iconst (v := 0) S.x S.b d_Cmp_endFunction_80 (by decide) ?_
    have hw : pw D A s.heap _ _ [wd_Exp cs he re eo ef ea eg, wd_Cmp cs hc (fun k => if k = 0 then re 0 else if k = 1 then re 1 else if k = 2 then he else if k = 3 then re 2 else if k = 4 then hs else ra k) (fun k => if k = 9 then fo_60 else none) cf_60 ca (fun _ _ => none), wd_Tok cs (re 0) rt ot tf_60 ta tg, [((rp 1), .inl (cs 0, cn, .inl cd_60))], wd_Prg cs (re 2) rp (fun k => if k = 2 then (some fu) else none) fp_60 (fun _ _ => 0) (fun _ _ => none), [(fu, .inl (cs 0, fn, .inl ft4))], wd_Nam cs (re 1) rn no nf_60 na ng, wd_Lst cs (rn 0) (fun _ => 0) (fun k => if k = 0 then (some lq) else none) lf_60 (fun _ _ => 0) (fun _ _ => none), lA cs own lq lc lg_60, wd_Lst cs (rn 1) (fun _ => 0) (fun k => if k = 0 then (some fq) else none) ff (fun _ _ => 0) (fun _ _ => none), [(fq, .inl (cs 12, fc, .inr (.inr (.inr (.inr fg)))))], P] := hw.sub [0, 1, 2, 3, 10, 11, 4, 5, 6, 7, 8, 9] rfl rfl
    refine px_callv (pr := [wd_Exp cs he re eo ef ea eg, wd_Cmp cs hc (fun k => if k = 0 then re 0 else if k = 1 then re 1 else if k = 2 then he else if k = 3 then re 2 else if k = 4 then hs else ra k) (fun k => if k = 9 then fo_60 else none) cf_60 ca (fun _ _ => none), wd_Tok cs (re 0) rt ot tf_60 ta tg, [((rp 1), .inl (cs 0, cn, .inl cd_60))], wd_Prg cs (re 2) rp (fun k => if k = 2 then (some fu) else none) fp_60 (fun _ _ => 0) (fun _ _ => none), [(fu, .inl (cs 0, fn, .inl ft4))]]) (px_runV (As := [.int 0]) (rest := []) S (c_nw_leave l D cs em (re 1) rn no ng na own lq lc fq fc ff fg P nf_60 lf_60 lg_60 0  (show NmI em P own (lf_60 1) (ff 1) (nf_60 3) (nf_60 4) lq lc fc lg_60 fg from ⟨⟨(by first | assumption | exact fun h => absurd h (by decide) | exact fun _ => rfl), ⟨by omega, by omega, by omega⟩, (by first | exact hEl | exact hEl.less (by omega) | exact hels), ⟨by omega, by omega, by omega⟩, (by first | exact hEf | exact hEf.less (by omega) | exact helf)⟩, (by first | assumption | exact fun h => absurd h (by decide)), (by first | assumption | exact fun h => absurd h (by decide) | exact fun _ => (by omega)), ⟨by omega, by omega, by omega⟩, ⟨by omega, by omega⟩, by omega, (by first | exact hEg | exact hEg.less (by omega) | exact helg), by omega⟩) (show 0 ≤ (0 : Int) from by omega) _) hT (pr := [wd_Exp cs he re eo ef ea eg, wd_Cmp cs hc (fun k => if k = 0 then re 0 else if k = 1 then re 1 else if k = 2 then he else if k = 3 then re 2 else if k = 4 then hs else ra k) (fun k => if k = 9 then fo_60 else none) cf_60 ca (fun _ _ => none), wd_Tok cs (re 0) rt ot tf_60 ta tg, [((rp 1), .inl (cs 0, cn, .inl cd_60))], wd_Prg cs (re 2) rp (fun k => if k = 2 then (some fu) else none) fp_60 (fun _ _ => 0) (fun _ _ => none), [(fu, .inl (cs 0, fn, .inl ft4))]]) (pcs := [wd_Nam cs (re 1) rn no nf_60 na ng, wd_Lst cs (rn 0) (fun _ => 0) (fun k => if k = 0 then (some lq) else none) lf_60 (fun _ _ => 0) (fun _ _ => none), lA cs own lq lc lg_60, wd_Lst cs (rn 1) (fun _ => 0) (fun k => if k = 0 then (some fq) else none) ff (fun _ _ => 0) (fun _ _ => none), [(fq, .inl (cs 12, fc, .inr (.inr (.inr (.inr fg)))))], P]) hw px_X.tt (px_recv hT hw 6 0 rfl rfl rfl) m5_204 m5_201 m5_202 m5_203 m1_7 q_Nam_leave ⟨Nat.le_of_ble_eq_true rfl, Nat.le_of_ble_eq_true rfl⟩ hl.1 rfl (Nat.le_of_ble_eq_true rfl) d_Cmp_endFunction_81 ⟨Nat.le_of_ble_eq_true rfl, Nat.le_of_ble_eq_true rfl⟩) hw hA (fun p14 H locs hp14 hw => ?_)
    obtain ⟨nf11, lf12, lg13, rfl, h20, e16, e17, e18, e19⟩ := hp14
    obtain ⟨⟨hown, ⟨n1, n2, n3⟩, hEl, ⟨n4, n5, n6⟩, hEf⟩, hne, hnt, ⟨hfc, hlb, hfb⟩, ⟨hw0, hw1⟩, hsc, hEg, hk10⟩ := h20
    have e16 : (lf12 1).toInt ≤ (lf_60 1).toInt := e16
    have e17 : (ff 1).toInt = (ff 1).toInt := e17
    have e18 : (nf11 3).toInt = (nf_60 3).toInt := e18
    have e19 : (nf11 4).toInt = (0 : Int) := e19
    have hw : pw D A s.heap H locs [wd_Exp cs he re eo ef ea eg, wd_Cmp cs hc (fun k => if k = 0 then re 0 else if k = 1 then re 1 else if k = 2 then he else if k = 3 then re 2 else if k = 4 then hs else ra k) (fun k => if k = 9 then fo_60 else none) cf_60 ca (fun _ _ => none), wd_Tok cs (re 0) rt ot tf_60 ta tg, [((rp 1), .inl (cs 0, cn, .inl cd_60))], wd_Prg cs (re 2) rp (fun k => if k = 2 then (some fu) else none) fp_60 (fun _ _ => 0) (fun _ _ => none), [(fu, .inl (cs 0, fn, .inl ft4))], wd_Nam cs (re 1) rn no nf11 na ng, wd_Lst cs (rn 0) (fun _ => 0) (fun k => if k = 0 then (some lq) else none) lf12 (fun _ _ => 0) (fun _ _ => none), lA cs own lq lc lg13, wd_Lst cs (rn 1) (fun _ => 0) (fun k => if k = 0 then (some fq) else none) ff (fun _ _ => 0) (fun _ _ => none), [(fq, .inl (cs 12, fc, .inr (.inr (.inr (.inr fg)))))], P] := hw
    refine lv_aload_n S.x S.b d_Cmp_endFunction_84 rfl (lv_at hl 0 rfl) ?_
    refine lv_null S.x S.b d_Cmp_endFunction_85 ?_
    refine px_put S k_Cmp hT hw 1 0 9 rfl rfl (by decide) m2_158 rfl rfl rfl (Nat.le_of_ble_eq_true rfl) d_Cmp_endFunction_86 (w' := wd_Cmp cs hc (fun k => if k = 0 then re 0 else if k = 1 then re 1 else if k = 2 then he else if k = 3 then re 2 else if k = 4 then hs else ra k) (fun k => if k = 9 then none else none) cf_60 ca (fun _ _ => none)) (ps' := [wd_Exp cs he re eo ef ea eg, wd_Cmp cs hc (fun k => if k = 0 then re 0 else if k = 1 then re 1 else if k = 2 then he else if k = 3 then re 2 else if k = 4 then hs else ra k) (fun k => if k = 9 then none else none) cf_60 ca (fun _ _ => none), wd_Tok cs (re 0) rt ot tf_60 ta tg, [((rp 1), .inl (cs 0, cn, .inl cd_60))], wd_Prg cs (re 2) rp (fun k => if k = 2 then (some fu) else none) fp_60 (fun _ _ => 0) (fun _ _ => none), [(fu, .inl (cs 0, fn, .inl ft4))], wd_Nam cs (re 1) rn no nf11 na ng, wd_Lst cs (rn 0) (fun _ => 0) (fun k => if k = 0 then (some lq) else none) lf12 (fun _ _ => 0) (fun _ _ => none), lA cs own lq lc lg13, wd_Lst cs (rn 1) (fun _ => 0) (fun k => if k = 0 then (some fq) else none) ff (fun _ _ => 0) (fun _ _ => none), [(fq, .inl (cs 12, fc, .inr (.inr (.inr (.inr fg)))))], P]) rfl rfl (fun H locs hw => ?_)
    have hw : pw D A s.heap _ _ [wd_Exp cs he re eo ef ea eg, wd_Cmp cs hc (fun k => if k = 0 then re 0 else if k = 1 then re 1 else if k = 2 then he else if k = 3 then re 2 else if k = 4 then hs else ra k) (fun k => if k = 9 then none else none) cf_60 ca (fun _ _ => none), wd_Tok cs (re 0) rt ot tf_60 ta tg, wd_Prg cs (re 2) rp (fun k => if k = 2 then (some fu) else none) fp_60 (fun _ _ => 0) (fun _ _ => none), [((rp 1), .inl (cs 0, cn, .inl cd_60))], [(fu, .inl (cs 0, fn, .inl ft4))], wd_Nam cs (re 1) rn no nf11 na ng, wd_Lst cs (rn 0) (fun _ => 0) (fun k => if k = 0 then (some lq) else none) lf12 (fun _ _ => 0) (fun _ _ => none), lA cs own lq lc lg13, wd_Lst cs (rn 1) (fun _ => 0) (fun k => if k = 0 then (some fq) else none) ff (fun _ _ => 0) (fun _ _ => none), [(fq, .inl (cs 12, fc, .inr (.inr (.inr (.inr fg)))))], P] := hw.sub [0, 1, 2, 4, 3, 5, 6, 7, 8, 9, 10, 11] rfl rfl
    exact px_vret S hr hlk hAe hw (Nat.le_of_ble_eq_true rfl) (Nat.le_of_ble_eq_true rfl) (⟨cf_60, none, tf_60, fp_60, cd_60, ft4, nf11, lf12, lg13, rfl, (show CmOk P (cf_60 7) (cf_60 8) (cf_60 10) (ca 6) none from ⟨⟨by omega, by omega⟩, ⟨by omega, by omega⟩, ⟨by omega, by omega⟩, (by first | exact hct | exact fun j hj => hct j (by omega) | exact hctn), (by first | exact hfo | exact hpg.fy hfo | exact fy_none | assumption)⟩), (show CurOk (tf_60 10) (tf_60 13) (tf_60 14) (tf_60 15) (tf_60 17) (ta 0) from ⟨⟨by omega, by omega⟩, ⟨by omega, by omega⟩, ⟨by omega, by omega⟩, by omega, by omega, last_eq hlast (by omega)⟩), (show NmI em P own (lf12 1) (ff 1) (nf11 3) (nf11 4) lq lc fc lg13 fg from ⟨⟨(by first | assumption | exact fun h => absurd h (by decide) | exact fun _ => rfl), ⟨by omega, by omega, by omega⟩, (by first | exact hEl | exact hEl.less (by omega) | exact hels), ⟨by omega, by omega, by omega⟩, (by first | exact hEf | exact hEf.less (by omega) | exact helf)⟩, (by first | assumption | exact fun h => absurd h (by decide)), (by first | assumption | exact fun h => absurd h (by decide) | exact fun _ => (by omega)), ⟨by omega, by omega, by omega⟩, ⟨by omega, by omega⟩, by omega, (by first | exact hEg | exact hEg.less (by omega) | exact helg), by omega⟩), (show (tf_60 10).toInt = (tf 10).toInt from by omega), (show (tf_60 13).toInt = (tf 13).toInt from by omega), (show (tf_60 14).toInt = (tf 14).toInt from by omega), (show (tf_60 15).toInt = (tf 15).toInt from by omega), (show Prel cn (fp 3) cd (fp_60 3) cd_60 from hrel), (show RtOk ft4 from (by first | exact hrt | exact hrtn)), (show (cf_60 7).toInt = (cf 7).toInt from by omega), (show (cf_60 8).toInt = (cf 8).toInt from by omega), (show (cf_60 10).toInt = (cf 10).toInt from by omega), (show (cf_60 16).toInt = (cf 16).toInt from by omega), (show (cf_60 17).toInt = (cf 17).toInt from by omega), (show (lf12 1).toInt ≤ (lf 1).toInt from by omega), (show (ff 1).toInt = (ff 1).toInt from by omega), (show (nf11 3).toInt = (nf 3).toInt from by omega), (show (fp_60 3).toInt ≤ (fp 3).toInt + 190 * ((tf_60 13).toInt - (tf 13).toInt) + 40 + 300000 * (tf_60 15).toInt from by omega)⟩) d_Cmp_endFunction_89
  refine lv_aload_n S.x S.b d_Cmp_endFunction_0 rfl (lv_at hl 0 rfl) ?_
  refine px_get S k_Cmp hT hw 1 0 3 (v := .ref (re 2)) rfl rfl rfl (by decide) m2_152 d_Cmp_endFunction_1 ?_
  refine lv_iconst (v := 1) S.x S.b d_Cmp_endFunction_4 (by decide) ?_
  refine lv_iconst (v := 0) S.x S.b d_Cmp_endFunction_5 (by decide) ?_
  refine lv_iconst (v := 0) S.x S.b d_Cmp_endFunction_6 (by decide) ?_
  refine lv_iconst (v := 0) S.x S.b d_Cmp_endFunction_7 (by decide) ?_
  have hw : pw D A s.heap _ _ [wd_Exp cs he re eo ef ea eg, wd_Cmp cs hc (fun k => if k = 0 then re 0 else if k = 1 then re 1 else if k = 2 then he else if k = 3 then re 2 else if k = 4 then hs else ra k) (fun k => if k = 9 then fo else none) cf ca (fun _ _ => none), wd_Tok cs (re 0) rt ot tf ta tg, [(fu, .inl (cs 0, fn, .inl ft))], wd_Nam cs (re 1) rn no nf na ng, wd_Lst cs (rn 0) (fun _ => 0) (fun k => if k = 0 then (some lq) else none) lf (fun _ _ => 0) (fun _ _ => none), lA cs own lq lc lg, wd_Lst cs (rn 1) (fun _ => 0) (fun k => if k = 0 then (some fq) else none) ff (fun _ _ => 0) (fun _ _ => none), [(fq, .inl (cs 12, fc, .inr (.inr (.inr (.inr fg)))))], P, wd_Prg cs (re 2) rp (fun k => if k = 2 then (some fu) else none) fp (fun _ _ => 0) (fun _ _ => none), [((rp 1), .inl (cs 0, cn, .inl cd))]] := hw.sub [0, 1, 2, 5, 6, 7, 8, 9, 10, 11, 3, 4] rfl rfl
  refine px_calli (pr := [wd_Exp cs he re eo ef ea eg, wd_Cmp cs hc (fun k => if k = 0 then re 0 else if k = 1 then re 1 else if k = 2 then he else if k = 3 then re 2 else if k = 4 then hs else ra k) (fun k => if k = 9 then fo else none) cf ca (fun _ _ => none), wd_Tok cs (re 0) rt ot tf ta tg, [(fu, .inl (cs 0, fn, .inl ft))], wd_Nam cs (re 1) rn no nf na ng, wd_Lst cs (rn 0) (fun _ => 0) (fun k => if k = 0 then (some lq) else none) lf (fun _ _ => 0) (fun _ _ => none), lA cs own lq lc lg, wd_Lst cs (rn 1) (fun _ => 0) (fun k => if k = 0 then (some fq) else none) ff (fun _ _ => 0) (fun _ _ => none), [(fq, .inl (cs 12, fc, .inr (.inr (.inr (.inr fg)))))], P]) (px_runV (As := [.int 1, .int 0, .int 0, .int 0]) (rest := []) S (c_pe_emit l D cs (re 2) rp (some fu) cn fp cd 1 0 0 0  (show cn % 4 = 0 from by omega) (show cn ≤ 100000 from by omega) hrel.1 (jop_low (by decide)) _) hT (pr := [wd_Exp cs he re eo ef ea eg, wd_Cmp cs hc (fun k => if k = 0 then re 0 else if k = 1 then re 1 else if k = 2 then he else if k = 3 then re 2 else if k = 4 then hs else ra k) (fun k => if k = 9 then fo else none) cf ca (fun _ _ => none), wd_Tok cs (re 0) rt ot tf ta tg, [(fu, .inl (cs 0, fn, .inl ft))], wd_Nam cs (re 1) rn no nf na ng, wd_Lst cs (rn 0) (fun _ => 0) (fun k => if k = 0 then (some lq) else none) lf (fun _ _ => 0) (fun _ _ => none), lA cs own lq lc lg, wd_Lst cs (rn 1) (fun _ => 0) (fun k => if k = 0 then (some fq) else none) ff (fun _ _ => 0) (fun _ _ => none), [(fq, .inl (cs 12, fc, .inr (.inr (.inr (.inr fg)))))], P]) (pcs := [wd_Prg cs (re 2) rp (fun k => if k = 2 then (some fu) else none) fp (fun _ _ => 0) (fun _ _ => none), [((rp 1), .inl (cs 0, cn, .inl cd))]]) hw px_X.tt (px_recv hT hw 10 0 rfl rfl rfl) m4_181 m5_166 m4_179 m4_180 m1_16 q_Prg_emit ⟨Nat.le_of_ble_eq_true rfl, Nat.le_of_ble_eq_true rfl⟩ hl.1 rfl (Nat.le_of_ble_eq_true rfl) d_Cmp_endFunction_8 ⟨Nat.le_of_ble_eq_true rfl, Nat.le_of_ble_eq_true rfl⟩) hw hA (fun v26 p25 H locs hp25 hw => ?_)
  obtain ⟨fp23, cd24, rfl, hv_v26, hem, hwx, hsz, k0fp23, k4fp23, k5fp23⟩ := hp25
  have tv_v26 : v26.toInt = (fp 3).toInt := by rw [hv_v26]
  have pm27 := hem.2.1
  have hrel := hrel.tr hem
  have pz28 := hrel.nm
  have hsl_fp23 : (fp23 3).toInt ≤ (fp 3).toInt + 4 ∧ (fp 3).toInt ≤ (fp23 3).toInt := by omega
  clear hsz hwx
  have hw : pw D A s.heap H locs [wd_Exp cs he re eo ef ea eg, wd_Cmp cs hc (fun k => if k = 0 then re 0 else if k = 1 then re 1 else if k = 2 then he else if k = 3 then re 2 else if k = 4 then hs else ra k) (fun k => if k = 9 then fo else none) cf ca (fun _ _ => none), wd_Tok cs (re 0) rt ot tf ta tg, [(fu, .inl (cs 0, fn, .inl ft))], wd_Nam cs (re 1) rn no nf na ng, wd_Lst cs (rn 0) (fun _ => 0) (fun k => if k = 0 then (some lq) else none) lf (fun _ _ => 0) (fun _ _ => none), lA cs own lq lc lg, wd_Lst cs (rn 1) (fun _ => 0) (fun k => if k = 0 then (some fq) else none) ff (fun _ _ => 0) (fun _ _ => none), [(fq, .inl (cs 12, fc, .inr (.inr (.inr (.inr fg)))))], P, wd_Prg cs (re 2) rp (fun k => if k = 2 then (some fu) else none) fp23 (fun _ _ => 0) (fun _ _ => none), [((rp 1), .inl (cs 0, cn, .inl cd24))]] := hw
  have lv26 := Int32.le_toInt v26
  have uv26 := Int32.toInt_lt v26
  refine lv_pop S.x S.b d_Cmp_endFunction_11 rfl ?_
  refine lv_aload_n S.x S.b d_Cmp_endFunction_12 rfl (lv_at hl 0 rfl) ?_
  refine px_get S k_Cmp hT hw 1 0 3 (v := .ref (re 2)) rfl rfl rfl (by decide) m2_152 d_Cmp_endFunction_13 ?_
  refine lv_bipush (v := 24) S.x S.b d_Cmp_endFunction_16 (by decide) ?_
  refine lv_iconst (v := 0) S.x S.b d_Cmp_endFunction_18 (by decide) ?_
  refine lv_iconst (v := 0) S.x S.b d_Cmp_endFunction_19 (by decide) ?_
  refine lv_iconst (v := 0) S.x S.b d_Cmp_endFunction_20 (by decide) ?_
  refine px_calli (pr := [wd_Exp cs he re eo ef ea eg, wd_Cmp cs hc (fun k => if k = 0 then re 0 else if k = 1 then re 1 else if k = 2 then he else if k = 3 then re 2 else if k = 4 then hs else ra k) (fun k => if k = 9 then fo else none) cf ca (fun _ _ => none), wd_Tok cs (re 0) rt ot tf ta tg, [(fu, .inl (cs 0, fn, .inl ft))], wd_Nam cs (re 1) rn no nf na ng, wd_Lst cs (rn 0) (fun _ => 0) (fun k => if k = 0 then (some lq) else none) lf (fun _ _ => 0) (fun _ _ => none), lA cs own lq lc lg, wd_Lst cs (rn 1) (fun _ => 0) (fun k => if k = 0 then (some fq) else none) ff (fun _ _ => 0) (fun _ _ => none), [(fq, .inl (cs 12, fc, .inr (.inr (.inr (.inr fg)))))], P]) (px_runV (As := [.int 24, .int 0, .int 0, .int 0]) (rest := []) S (c_pe_emit l D cs (re 2) rp (some fu) cn fp23 cd24 24 0 0 0  (show cn % 4 = 0 from by omega) (show cn ≤ 100000 from by omega) hrel.1 (jop_hi (by decide)) _) hT (pr := [wd_Exp cs he re eo ef ea eg, wd_Cmp cs hc (fun k => if k = 0 then re 0 else if k = 1 then re 1 else if k = 2 then he else if k = 3 then re 2 else if k = 4 then hs else ra k) (fun k => if k = 9 then fo else none) cf ca (fun _ _ => none), wd_Tok cs (re 0) rt ot tf ta tg, [(fu, .inl (cs 0, fn, .inl ft))], wd_Nam cs (re 1) rn no nf na ng, wd_Lst cs (rn 0) (fun _ => 0) (fun k => if k = 0 then (some lq) else none) lf (fun _ _ => 0) (fun _ _ => none), lA cs own lq lc lg, wd_Lst cs (rn 1) (fun _ => 0) (fun k => if k = 0 then (some fq) else none) ff (fun _ _ => 0) (fun _ _ => none), [(fq, .inl (cs 12, fc, .inr (.inr (.inr (.inr fg)))))], P]) (pcs := [wd_Prg cs (re 2) rp (fun k => if k = 2 then (some fu) else none) fp23 (fun _ _ => 0) (fun _ _ => none), [((rp 1), .inl (cs 0, cn, .inl cd24))]]) hw px_X.tt (px_recv hT hw 10 0 rfl rfl rfl) m4_181 m5_166 m4_179 m4_180 m1_16 q_Prg_emit ⟨Nat.le_of_ble_eq_true rfl, Nat.le_of_ble_eq_true rfl⟩ hl.1 rfl (Nat.le_of_ble_eq_true rfl) d_Cmp_endFunction_21 ⟨Nat.le_of_ble_eq_true rfl, Nat.le_of_ble_eq_true rfl⟩) hw hA (fun v34 p33 H locs hp33 hw => ?_)
  obtain ⟨fp31, cd32, rfl, hv_v34, hem, hwx, hsz, k0fp31, k4fp31, k5fp31⟩ := hp33
  have tv_v34 : v34.toInt = (fp23 3).toInt := by rw [hv_v34]
  have pm35 := hem.2.1
  have hrel := hrel.tr hem
  have pz36 := hrel.nm
  have hsl_fp31 : (fp31 3).toInt ≤ (fp23 3).toInt + 4 ∧ (fp23 3).toInt ≤ (fp31 3).toInt := by omega
  clear hsz hwx
  have hw : pw D A s.heap H locs [wd_Exp cs he re eo ef ea eg, wd_Cmp cs hc (fun k => if k = 0 then re 0 else if k = 1 then re 1 else if k = 2 then he else if k = 3 then re 2 else if k = 4 then hs else ra k) (fun k => if k = 9 then fo else none) cf ca (fun _ _ => none), wd_Tok cs (re 0) rt ot tf ta tg, [(fu, .inl (cs 0, fn, .inl ft))], wd_Nam cs (re 1) rn no nf na ng, wd_Lst cs (rn 0) (fun _ => 0) (fun k => if k = 0 then (some lq) else none) lf (fun _ _ => 0) (fun _ _ => none), lA cs own lq lc lg, wd_Lst cs (rn 1) (fun _ => 0) (fun k => if k = 0 then (some fq) else none) ff (fun _ _ => 0) (fun _ _ => none), [(fq, .inl (cs 12, fc, .inr (.inr (.inr (.inr fg)))))], P, wd_Prg cs (re 2) rp (fun k => if k = 2 then (some fu) else none) fp31 (fun _ _ => 0) (fun _ _ => none), [((rp 1), .inl (cs 0, cn, .inl cd32))]] := hw
  have lv34 := Int32.le_toInt v34
  have uv34 := Int32.toInt_lt v34
  refine lv_pop S.x S.b d_Cmp_endFunction_24 rfl ?_
  refine lv_iconst (v := 4) S.x S.b d_Cmp_endFunction_25 (by decide) ?_
  refine lv_aload_n S.x S.b d_Cmp_endFunction_26 rfl (lv_at hl 0 rfl) ?_
  refine px_get S k_Cmp hT hw 1 0 12 (v := .int (cf 12)) rfl rfl rfl (by decide) m2_161 d_Cmp_endFunction_27 ?_
  refine lv_iadd S.x S.b d_Cmp_endFunction_30 ?_
  have lr37 := Int32.le_toInt (cf 12)
  have ur37 := Int32.toInt_lt (cf 12)
  refine lv_topi (fun z38 ez38 => ?_)
  have lz38 := Int32.le_toInt z38
  have uz38 := Int32.toInt_lt z38
  refine lv_aload_n S.x S.b d_Cmp_endFunction_31 rfl (lv_at hl 0 rfl) ?_
  refine px_get S k_Cmp hT hw 1 0 13 (v := .int (cf 13)) rfl rfl rfl (by decide) m2_162 d_Cmp_endFunction_32 ?_
  refine lv_iadd S.x S.b d_Cmp_endFunction_35 ?_
  have lr39 := Int32.le_toInt (cf 13)
  have ur39 := Int32.toInt_lt (cf 13)
  refine lv_topi (fun z40 ez40 => ?_)
  have lz40 := Int32.le_toInt z40
  have uz40 := Int32.toInt_lt z40
  refine lv_istore_n (lv' := [(3, .int z40), (0, .ref hc), (1, .int p0), (2, .int p1)]) S.x S.b d_Cmp_endFunction_36 rfl hl (by decide) rfl (fun ls hl => ?_)
  refine lv_iload_n S.x S.b d_Cmp_endFunction_37 rfl (lv_at hl 0 rfl) ?_
  refine lv_sipush (v := 8192) S.x S.b d_Cmp_endFunction_38 (by decide) ?_
  refine lv_icmp_le (tgt := 60) S.x S.b d_Cmp_endFunction_41 (by decide) (fun c41 => ?_) (fun c41 => ?_)
  · have nc41 : z40.toInt ≤ (8192 : Int) := (i_le (x := z40) (y := 8192)).mp c41
    have hw : pw D A s.heap _ _ [wd_Exp cs he re eo ef ea eg, wd_Cmp cs hc (fun k => if k = 0 then re 0 else if k = 1 then re 1 else if k = 2 then he else if k = 3 then re 2 else if k = 4 then hs else ra k) (fun k => if k = 9 then fo else none) cf ca (fun _ _ => none), wd_Tok cs (re 0) rt ot tf ta tg, wd_Prg cs (re 2) rp (fun k => if k = 2 then (some fu) else none) fp31 (fun _ _ => 0) (fun _ _ => none), [((rp 1), .inl (cs 0, cn, .inl cd32))], [(fu, .inl (cs 0, fn, .inl ft))], wd_Nam cs (re 1) rn no nf na ng, wd_Lst cs (rn 0) (fun _ => 0) (fun k => if k = 0 then (some lq) else none) lf (fun _ _ => 0) (fun _ _ => none), lA cs own lq lc lg, wd_Lst cs (rn 1) (fun _ => 0) (fun k => if k = 0 then (some fq) else none) ff (fun _ _ => 0) (fun _ _ => none), [(fq, .inl (cs 12, fc, .inr (.inr (.inr (.inr fg)))))], P] := hw.sub [0, 1, 2, 10, 11, 3, 4, 5, 6, 7, 8, 9] rfl rfl
    exact J60 cf fo tf fp31 cd32 ft nf lf lg z40 _ _ ls (show CmOk P (cf 7) (cf 8) (cf 10) (ca 6) fo from ⟨⟨by omega, by omega⟩, ⟨by omega, by omega⟩, ⟨by omega, by omega⟩, (by first | exact hct | exact fun j hj => hct j (by omega) | exact hctn), (by first | exact hfo | exact hpg.fy hfo | exact fy_none | assumption)⟩) (show CurOk (tf 10) (tf 13) (tf 14) (tf 15) (tf 17) (ta 0) from ⟨⟨by omega, by omega⟩, ⟨by omega, by omega⟩, ⟨by omega, by omega⟩, by omega, by omega, last_eq hlast (by omega)⟩) (show NmI em P own (lf 1) (ff 1) (nf 3) (nf 4) lq lc fc lg fg from ⟨⟨(by first | assumption | exact fun h => absurd h (by decide) | exact fun _ => rfl), ⟨by omega, by omega, by omega⟩, (by first | exact hEl | exact hEl.less (by omega) | exact hels), ⟨by omega, by omega, by omega⟩, (by first | exact hEf | exact hEf.less (by omega) | exact helf)⟩, (by first | assumption | exact fun h => absurd h (by decide)), (by first | assumption | exact fun h => absurd h (by decide) | exact fun _ => (by omega)), ⟨by omega, by omega, by omega⟩, ⟨by omega, by omega⟩, by omega, (by first | exact hEg | exact hEg.less (by omega) | exact helg), by omega⟩) (show (tf 10).toInt = (tf 10).toInt from by omega) (show (tf 13).toInt = (tf 13).toInt from by omega) (show (tf 14).toInt = (tf 14).toInt from by omega) (show (tf 15).toInt = (tf 15).toInt from by omega) (show Prel cn (fp 3) cd (fp31 3) cd32 from hrel) (show RtOk ft from (by first | exact hrt | exact hrtn)) (show (cf 7).toInt = (cf 7).toInt from by omega) (show (cf 8).toInt = (cf 8).toInt from by omega) (show (cf 10).toInt = (cf 10).toInt from by omega) (show (cf 16).toInt = (cf 16).toInt from by omega) (show (cf 17).toInt = (cf 17).toInt from by omega) (show (lf 1).toInt = (lf 1).toInt from by omega) (show (ff 1).toInt = (ff 1).toInt from by omega) (show (nf 3).toInt = (nf 3).toInt from by omega) (show (fp31 3).toInt ≤ (fp 3).toInt + 190 * ((tf 13).toInt - (tf 13).toInt) + 40 + 300000 * (tf 15).toInt from by omega) hw (lv_sub hl [1, 2, 3, 0] rfl)
  · have nc41 : ¬ z40.toInt ≤ (8192 : Int) := mt (i_le (x := z40) (y := 8192)).mpr c41
    refine lv_aload_n S.x S.b d_Cmp_endFunction_44 rfl (lv_at hl 1 rfl) ?_
    refine px_get S k_Cmp hT hw 1 0 0 (v := .ref (re 0)) rfl rfl rfl (by decide) m2_149 d_Cmp_endFunction_45 ?_
    refine lv_bipush (v := 13) S.x S.b d_Cmp_endFunction_48 (by decide) ?_
    refine lv_aload_n S.x S.b d_Cmp_endFunction_50 rfl (lv_at hl 1 rfl) ?_
    refine px_get S k_Cmp hT hw 1 0 0 (v := .ref (re 0)) rfl rfl rfl (by decide) m2_149 d_Cmp_endFunction_51 ?_
    have hw : pw D A s.heap _ _ [wd_Exp cs he re eo ef ea eg, wd_Cmp cs hc (fun k => if k = 0 then re 0 else if k = 1 then re 1 else if k = 2 then he else if k = 3 then re 2 else if k = 4 then hs else ra k) (fun k => if k = 9 then fo else none) cf ca (fun _ _ => none), [(fu, .inl (cs 0, fn, .inl ft))], wd_Nam cs (re 1) rn no nf na ng, wd_Lst cs (rn 0) (fun _ => 0) (fun k => if k = 0 then (some lq) else none) lf (fun _ _ => 0) (fun _ _ => none), lA cs own lq lc lg, wd_Lst cs (rn 1) (fun _ => 0) (fun k => if k = 0 then (some fq) else none) ff (fun _ _ => 0) (fun _ _ => none), [(fq, .inl (cs 12, fc, .inr (.inr (.inr (.inr fg)))))], P, wd_Prg cs (re 2) rp (fun k => if k = 2 then (some fu) else none) fp31 (fun _ _ => 0) (fun _ _ => none), [((rp 1), .inl (cs 0, cn, .inl cd32))], wd_Tok cs (re 0) rt ot tf ta tg] := hw.sub [0, 1, 3, 4, 5, 6, 7, 8, 9, 10, 11, 2] rfl rfl
    refine px_calli (pr := [wd_Exp cs he re eo ef ea eg, wd_Cmp cs hc (fun k => if k = 0 then re 0 else if k = 1 then re 1 else if k = 2 then he else if k = 3 then re 2 else if k = 4 then hs else ra k) (fun k => if k = 9 then fo else none) cf ca (fun _ _ => none), [(fu, .inl (cs 0, fn, .inl ft))], wd_Nam cs (re 1) rn no nf na ng, wd_Lst cs (rn 0) (fun _ => 0) (fun k => if k = 0 then (some lq) else none) lf (fun _ _ => 0) (fun _ _ => none), lA cs own lq lc lg, wd_Lst cs (rn 1) (fun _ => 0) (fun k => if k = 0 then (some fq) else none) ff (fun _ _ => 0) (fun _ _ => none), [(fq, .inl (cs 12, fc, .inr (.inr (.inr (.inr fg)))))], P, wd_Prg cs (re 2) rp (fun k => if k = 2 then (some fu) else none) fp31 (fun _ _ => 0) (fun _ _ => none), [((rp 1), .inl (cs 0, cn, .inl cd32))]]) (px_runV (As := []) (rest := [.int 13, .ref (re 0)]) S (c_tk_last l D cs (re 0) rt ot ta tg tf   (show CurOk (tf 10) (tf 13) (tf 14) (tf 15) (tf 17) (ta 0) from ⟨⟨by omega, by omega⟩, ⟨by omega, by omega⟩, ⟨by omega, by omega⟩, by omega, by omega, last_eq hlast (by omega)⟩) _) hT (pr := [wd_Exp cs he re eo ef ea eg, wd_Cmp cs hc (fun k => if k = 0 then re 0 else if k = 1 then re 1 else if k = 2 then he else if k = 3 then re 2 else if k = 4 then hs else ra k) (fun k => if k = 9 then fo else none) cf ca (fun _ _ => none), [(fu, .inl (cs 0, fn, .inl ft))], wd_Nam cs (re 1) rn no nf na ng, wd_Lst cs (rn 0) (fun _ => 0) (fun k => if k = 0 then (some lq) else none) lf (fun _ _ => 0) (fun _ _ => none), lA cs own lq lc lg, wd_Lst cs (rn 1) (fun _ => 0) (fun k => if k = 0 then (some fq) else none) ff (fun _ _ => 0) (fun _ _ => none), [(fq, .inl (cs 12, fc, .inr (.inr (.inr (.inr fg)))))], P, wd_Prg cs (re 2) rp (fun k => if k = 2 then (some fu) else none) fp31 (fun _ _ => 0) (fun _ _ => none), [((rp 1), .inl (cs 0, cn, .inl cd32))]]) (pcs := [wd_Tok cs (re 0) rt ot tf ta tg]) hw px_X.tt (px_recv hT hw 11 0 rfl rfl rfl) m6_34 m6_31 m6_32 m6_33 m1_2 q_Tok_last ⟨Nat.le_of_ble_eq_true rfl, Nat.le_of_ble_eq_true rfl⟩ hl.1 rfl (Nat.le_of_ble_eq_true rfl) d_Cmp_endFunction_54 ⟨Nat.le_of_ble_eq_true rfl, Nat.le_of_ble_eq_true rfl⟩) hw hA (fun v43 p42 H locs hp42 hw => ?_)
    obtain ⟨rfl, e44⟩ := hp42
    have e44 : v43.toInt = (tf 10).toInt - 1 := e44
    have hw : pw D A s.heap H locs [wd_Exp cs he re eo ef ea eg, wd_Cmp cs hc (fun k => if k = 0 then re 0 else if k = 1 then re 1 else if k = 2 then he else if k = 3 then re 2 else if k = 4 then hs else ra k) (fun k => if k = 9 then fo else none) cf ca (fun _ _ => none), [(fu, .inl (cs 0, fn, .inl ft))], wd_Nam cs (re 1) rn no nf na ng, wd_Lst cs (rn 0) (fun _ => 0) (fun k => if k = 0 then (some lq) else none) lf (fun _ _ => 0) (fun _ _ => none), lA cs own lq lc lg, wd_Lst cs (rn 1) (fun _ => 0) (fun k => if k = 0 then (some fq) else none) ff (fun _ _ => 0) (fun _ _ => none), [(fq, .inl (cs 12, fc, .inr (.inr (.inr (.inr fg)))))], P, wd_Prg cs (re 2) rp (fun k => if k = 2 then (some fu) else none) fp31 (fun _ _ => 0) (fun _ _ => none), [((rp 1), .inl (cs 0, cn, .inl cd32))], wd_Tok cs (re 0) rt ot tf ta tg] := hw
    have lv43 := Int32.le_toInt v43
    have uv43 := Int32.toInt_lt v43
    refine px_callv (pr := [wd_Exp cs he re eo ef ea eg, wd_Cmp cs hc (fun k => if k = 0 then re 0 else if k = 1 then re 1 else if k = 2 then he else if k = 3 then re 2 else if k = 4 then hs else ra k) (fun k => if k = 9 then fo else none) cf ca (fun _ _ => none), [(fu, .inl (cs 0, fn, .inl ft))], wd_Nam cs (re 1) rn no nf na ng, wd_Lst cs (rn 0) (fun _ => 0) (fun k => if k = 0 then (some lq) else none) lf (fun _ _ => 0) (fun _ _ => none), lA cs own lq lc lg, wd_Lst cs (rn 1) (fun _ => 0) (fun k => if k = 0 then (some fq) else none) ff (fun _ _ => 0) (fun _ _ => none), [(fq, .inl (cs 12, fc, .inr (.inr (.inr (.inr fg)))))], P, wd_Prg cs (re 2) rp (fun k => if k = 2 then (some fu) else none) fp31 (fun _ _ => 0) (fun _ _ => none), [((rp 1), .inl (cs 0, cn, .inl cd32))]]) (px_runV (As := [.int 13, .int v43]) (rest := []) S (c_tk_blame l D cs (re 0) rt ot ta tg tf 13 v43  (show CurOk (tf 10) (tf 13) (tf 14) (tf 15) (tf 17) (ta 0) from ⟨⟨by omega, by omega⟩, ⟨by omega, by omega⟩, ⟨by omega, by omega⟩, by omega, by omega, last_eq hlast (by omega)⟩) (show 0 ≤ v43.toInt from by omega) _) hT (pr := [wd_Exp cs he re eo ef ea eg, wd_Cmp cs hc (fun k => if k = 0 then re 0 else if k = 1 then re 1 else if k = 2 then he else if k = 3 then re 2 else if k = 4 then hs else ra k) (fun k => if k = 9 then fo else none) cf ca (fun _ _ => none), [(fu, .inl (cs 0, fn, .inl ft))], wd_Nam cs (re 1) rn no nf na ng, wd_Lst cs (rn 0) (fun _ => 0) (fun k => if k = 0 then (some lq) else none) lf (fun _ _ => 0) (fun _ _ => none), lA cs own lq lc lg, wd_Lst cs (rn 1) (fun _ => 0) (fun k => if k = 0 then (some fq) else none) ff (fun _ _ => 0) (fun _ _ => none), [(fq, .inl (cs 12, fc, .inr (.inr (.inr (.inr fg)))))], P, wd_Prg cs (re 2) rp (fun k => if k = 2 then (some fu) else none) fp31 (fun _ _ => 0) (fun _ _ => none), [((rp 1), .inl (cs 0, cn, .inl cd32))]]) (pcs := [wd_Tok cs (re 0) rt ot tf ta tg]) hw px_X.tt (px_recv hT hw 11 0 rfl rfl rfl) m4_173 m5_122 m4_171 m4_172 m1_2 q_Tok_blame ⟨Nat.le_of_ble_eq_true rfl, Nat.le_of_ble_eq_true rfl⟩ hl.1 rfl (Nat.le_of_ble_eq_true rfl) d_Cmp_endFunction_57 ⟨Nat.le_of_ble_eq_true rfl, Nat.le_of_ble_eq_true rfl⟩) hw hA (fun p46 H locs hp46 hw => ?_)
    obtain ⟨tf45, rfl, h52, e48, e49, e50, e51⟩ := hp46
    obtain ⟨⟨o1, o2⟩, ⟨o3, o4⟩, ⟨o5, o6⟩, o7, o8, hlast⟩ := h52
    have la_tf45 := Int32.le_toInt (tf45 14)
    have ua_tf45 := Int32.toInt_lt (tf45 14)
    have e48 : (tf45 10).toInt = (tf 10).toInt := e48
    have e49 : (tf45 14).toInt = (tf 14).toInt := e49
    have e50 : (tf45 15).toInt = (tf 15).toInt := e50
    have e51 : (tf45 13).toInt = (tf 13).toInt := e51
    have hw : pw D A s.heap H locs [wd_Exp cs he re eo ef ea eg, wd_Cmp cs hc (fun k => if k = 0 then re 0 else if k = 1 then re 1 else if k = 2 then he else if k = 3 then re 2 else if k = 4 then hs else ra k) (fun k => if k = 9 then fo else none) cf ca (fun _ _ => none), [(fu, .inl (cs 0, fn, .inl ft))], wd_Nam cs (re 1) rn no nf na ng, wd_Lst cs (rn 0) (fun _ => 0) (fun k => if k = 0 then (some lq) else none) lf (fun _ _ => 0) (fun _ _ => none), lA cs own lq lc lg, wd_Lst cs (rn 1) (fun _ => 0) (fun k => if k = 0 then (some fq) else none) ff (fun _ _ => 0) (fun _ _ => none), [(fq, .inl (cs 12, fc, .inr (.inr (.inr (.inr fg)))))], P, wd_Prg cs (re 2) rp (fun k => if k = 2 then (some fu) else none) fp31 (fun _ _ => 0) (fun _ _ => none), [((rp 1), .inl (cs 0, cn, .inl cd32))], wd_Tok cs (re 0) rt ot tf45 ta tg] := hw
    have hw : pw D A s.heap _ _ [wd_Exp cs he re eo ef ea eg, wd_Cmp cs hc (fun k => if k = 0 then re 0 else if k = 1 then re 1 else if k = 2 then he else if k = 3 then re 2 else if k = 4 then hs else ra k) (fun k => if k = 9 then fo else none) cf ca (fun _ _ => none), wd_Tok cs (re 0) rt ot tf45 ta tg, wd_Prg cs (re 2) rp (fun k => if k = 2 then (some fu) else none) fp31 (fun _ _ => 0) (fun _ _ => none), [((rp 1), .inl (cs 0, cn, .inl cd32))], [(fu, .inl (cs 0, fn, .inl ft))], wd_Nam cs (re 1) rn no nf na ng, wd_Lst cs (rn 0) (fun _ => 0) (fun k => if k = 0 then (some lq) else none) lf (fun _ _ => 0) (fun _ _ => none), lA cs own lq lc lg, wd_Lst cs (rn 1) (fun _ => 0) (fun k => if k = 0 then (some fq) else none) ff (fun _ _ => 0) (fun _ _ => none), [(fq, .inl (cs 12, fc, .inr (.inr (.inr (.inr fg)))))], P] := hw.sub [0, 1, 11, 9, 10, 2, 3, 4, 5, 6, 7, 8] rfl rfl
    exact J60 cf fo tf45 fp31 cd32 ft nf lf lg z40 _ _ ls (show CmOk P (cf 7) (cf 8) (cf 10) (ca 6) fo from ⟨⟨by omega, by omega⟩, ⟨by omega, by omega⟩, ⟨by omega, by omega⟩, (by first | exact hct | exact fun j hj => hct j (by omega) | exact hctn), (by first | exact hfo | exact hpg.fy hfo | exact fy_none | assumption)⟩) (show CurOk (tf45 10) (tf45 13) (tf45 14) (tf45 15) (tf45 17) (ta 0) from ⟨⟨by omega, by omega⟩, ⟨by omega, by omega⟩, ⟨by omega, by omega⟩, by omega, by omega, last_eq hlast (by omega)⟩) (show NmI em P own (lf 1) (ff 1) (nf 3) (nf 4) lq lc fc lg fg from ⟨⟨(by first | assumption | exact fun h => absurd h (by decide) | exact fun _ => rfl), ⟨by omega, by omega, by omega⟩, (by first | exact hEl | exact hEl.less (by omega) | exact hels), ⟨by omega, by omega, by omega⟩, (by first | exact hEf | exact hEf.less (by omega) | exact helf)⟩, (by first | assumption | exact fun h => absurd h (by decide)), (by first | assumption | exact fun h => absurd h (by decide) | exact fun _ => (by omega)), ⟨by omega, by omega, by omega⟩, ⟨by omega, by omega⟩, by omega, (by first | exact hEg | exact hEg.less (by omega) | exact helg), by omega⟩) (show (tf45 10).toInt = (tf 10).toInt from by omega) (show (tf45 13).toInt = (tf 13).toInt from by omega) (show (tf45 14).toInt = (tf 14).toInt from by omega) (show (tf45 15).toInt = (tf 15).toInt from by omega) (show Prel cn (fp 3) cd (fp31 3) cd32 from hrel) (show RtOk ft from (by first | exact hrt | exact hrtn)) (show (cf 7).toInt = (cf 7).toInt from by omega) (show (cf 8).toInt = (cf 8).toInt from by omega) (show (cf 10).toInt = (cf 10).toInt from by omega) (show (cf 16).toInt = (cf 16).toInt from by omega) (show (cf 17).toInt = (cf 17).toInt from by omega) (show (lf 1).toInt = (lf 1).toInt from by omega) (show (ff 1).toInt = (ff 1).toInt from by omega) (show (nf 3).toInt = (nf 3).toInt from by omega) (show (fp31 3).toInt ≤ (fp 3).toInt + 190 * ((tf45 13).toInt - (tf 13).toInt) + 40 + 300000 * (tf45 15).toInt from by omega) hw (lv_sub hl [1, 2, 3, 0] rfl)
