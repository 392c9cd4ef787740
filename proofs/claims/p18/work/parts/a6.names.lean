theorem oz_a7e05de1cd {a0 a1 a2 : Int} (h0 : 0 ≤ a0) (h1 : a0 < a1) (h2 : a1 ≤ a2) (h3 : a2 ≤ 2100) : 0 ≤ a0 ∧ a0 < ((2100 : Nat) : Int) := by omega
theorem oz_38f67f5f3e {a0 a1 : Int} (h0 : (0 : Int) ≤ a0) (h1 : a0 < a1) (h2 : a1 ≤ 1100) : 0 ≤ a0 ∧ a0 < ((1100 : Nat) : Int) := by omega
theorem oz_2ac51dce56  : (1 : Int) ≤ 3 := by omega
theorem oz_067d7b82d1  : (3 : Int) ≤ 3 := by omega
theorem oz_47ffbf2a6b  : (2 : Int) ≤ 3 := by omega
theorem oz_0804a0fa7b  : (0 : Int) ≤ 3 := by omega
theorem oz_00a6fa0b0d  : 1 ≤ (3 : Int) := by omega
theorem oz_f8683445ad {a0 : Int} (h0 : ¬ a0 < (0 : Int)) (h1 : ¬ (0 : Int) ≤ a0) : 0 ≤ a0 ∧ a0 < ((1100 : Nat) : Int) := by omega
theorem oz_7319c2f99d {a0 a1 a2 : Int} (h0 : a2 ≤ a1) (h1 : a0 < a2) : a0 < a1 := by omega
theorem oz_2c1e0e66aa  : 1 ≤ (6 : Int) := by omega
theorem m13_6 : Cond.methodLink "HomeSystemModel$Program" 584 ⟨"HomeSystemModel$Program", "first", "(I)I"⟩ ∈ AL := AL_13 (List.mem_of_getElem? (i := 6) rfl) rfl
theorem m13_9 : Cond.code ⟨"HomeSystemModel$Program", "first", "(I)I"⟩ prog_16_method_73_code 2 (Option.some FieldType.int) ∈ AL := AL_13 (List.mem_of_getElem? (i := 9) rfl) rfl
theorem ms_12_15 : Cond.selects "HomeSystemModel$Program" ⟨"HomeSystemModel$Program", "first", "(I)I"⟩ ⟨"HomeSystemModel$Program", "first", "(I)I"⟩ ∈ AL := AL_p (q := (⟨"HomeSystemModel$Program", "first", "(I)I"⟩, 69)) (by unfold lw_privs; exact List.mem_append_right _ (List.mem_append_right _ (List.mem_append_right _ (List.mem_append_right _ (List.mem_append_right _ (List.mem_append_right _ (List.mem_append_right _ (List.mem_append_right _ (List.mem_append_right _ (List.mem_append_right _ (List.mem_append_right _ (List.mem_append_left _ (List.mem_of_getElem? (i := 15) rfl)))))))))))))
theorem m13_8 : Cond.instanceMethod ⟨"HomeSystemModel$Program", "first", "(I)I"⟩ ∈ AL := AL_13 (List.mem_of_getElem? (i := 8) rfl) rfl
abbrev b_Mpg_checkName : ByteArray := prog_16_method_75_code
def y_Mpg_checkName : MethodName := ⟨"HomeSystemModel$Program", "checkName", "(I)I"⟩
theorem d_Mpg_checkName_0 : decode b_Mpg_checkName 0 = .ok (.aload_n 0, 1) := by decide +kernel
theorem d_Mpg_checkName_1 : decode b_Mpg_checkName 1 = .ok (.aload_n 0, 1) := by decide +kernel
theorem d_Mpg_checkName_2 : decode b_Mpg_checkName 2 = .ok (.getfield 210, 3) := by decide +kernel
theorem d_Mpg_checkName_5 : decode b_Mpg_checkName 5 = .ok (.iload_n 1, 1) := by decide +kernel
theorem d_Mpg_checkName_6 : decode b_Mpg_checkName 6 = .ok (.iaload, 1) := by decide +kernel
theorem d_Mpg_checkName_7 : decode b_Mpg_checkName 7 = .ok (.iconst 0, 1) := by decide +kernel
theorem d_Mpg_checkName_8 : decode b_Mpg_checkName 8 = .ok (.invokevirtual 559, 3) := by decide +kernel
theorem d_Mpg_checkName_11 : decode b_Mpg_checkName 11 = .ok (.istore_n 2, 1) := by decide +kernel
theorem d_Mpg_checkName_12 : decode b_Mpg_checkName 12 = .ok (.iload_n 2, 1) := by decide +kernel
theorem d_Mpg_checkName_13 : decode b_Mpg_checkName 13 = .ok (.ifCond .ge 16, 3) := by decide +kernel
theorem d_Mpg_checkName_16 : decode b_Mpg_checkName 16 = .ok (.aload_n 0, 1) := by decide +kernel
theorem d_Mpg_checkName_17 : decode b_Mpg_checkName 17 = .ok (.iconst 2, 1) := by decide +kernel
theorem d_Mpg_checkName_18 : decode b_Mpg_checkName 18 = .ok (.aload_n 0, 1) := by decide +kernel
theorem d_Mpg_checkName_19 : decode b_Mpg_checkName 19 = .ok (.getfield 210, 3) := by decide +kernel
theorem d_Mpg_checkName_22 : decode b_Mpg_checkName 22 = .ok (.iload_n 1, 1) := by decide +kernel
theorem d_Mpg_checkName_23 : decode b_Mpg_checkName 23 = .ok (.iaload, 1) := by decide +kernel
theorem d_Mpg_checkName_24 : decode b_Mpg_checkName 24 = .ok (.invokevirtual 565, 3) := by decide +kernel
theorem d_Mpg_checkName_27 : decode b_Mpg_checkName 27 = .ok (.iconst 0, 1) := by decide +kernel
theorem d_Mpg_checkName_28 : decode b_Mpg_checkName 28 = .ok (.ireturn, 1) := by decide +kernel
theorem d_Mpg_checkName_29 : decode b_Mpg_checkName 29 = .ok (.aload_n 0, 1) := by decide +kernel
theorem d_Mpg_checkName_30 : decode b_Mpg_checkName 30 = .ok (.getfield 249, 3) := by decide +kernel
theorem d_Mpg_checkName_33 : decode b_Mpg_checkName 33 = .ok (.iload_n 2, 1) := by decide +kernel
theorem d_Mpg_checkName_34 : decode b_Mpg_checkName 34 = .ok (.iaload, 1) := by decide +kernel
theorem d_Mpg_checkName_35 : decode b_Mpg_checkName 35 = .ok (.istore_n 3, 1) := by decide +kernel
theorem d_Mpg_checkName_36 : decode b_Mpg_checkName 36 = .ok (.aload_n 0, 1) := by decide +kernel
theorem d_Mpg_checkName_37 : decode b_Mpg_checkName 37 = .ok (.getfield 219, 3) := by decide +kernel
theorem d_Mpg_checkName_40 : decode b_Mpg_checkName 40 = .ok (.iload_n 1, 1) := by decide +kernel
theorem d_Mpg_checkName_41 : decode b_Mpg_checkName 41 = .ok (.aload_n 0, 1) := by decide +kernel
theorem d_Mpg_checkName_42 : decode b_Mpg_checkName 42 = .ok (.getfield 274, 3) := by decide +kernel
theorem d_Mpg_checkName_45 : decode b_Mpg_checkName 45 = .ok (.iload_n 2, 1) := by decide +kernel
theorem d_Mpg_checkName_46 : decode b_Mpg_checkName 46 = .ok (.iaload, 1) := by decide +kernel
theorem d_Mpg_checkName_47 : decode b_Mpg_checkName 47 = .ok (.iastore, 1) := by decide +kernel
theorem d_Mpg_checkName_48 : decode b_Mpg_checkName 48 = .ok (.aload_n 0, 1) := by decide +kernel
theorem d_Mpg_checkName_49 : decode b_Mpg_checkName 49 = .ok (.getfield 222, 3) := by decide +kernel
theorem d_Mpg_checkName_52 : decode b_Mpg_checkName 52 = .ok (.iload_n 1, 1) := by decide +kernel
theorem d_Mpg_checkName_53 : decode b_Mpg_checkName 53 = .ok (.aload_n 0, 1) := by decide +kernel
theorem d_Mpg_checkName_54 : decode b_Mpg_checkName 54 = .ok (.getfield 252, 3) := by decide +kernel
theorem d_Mpg_checkName_57 : decode b_Mpg_checkName 57 = .ok (.iload_n 2, 1) := by decide +kernel
theorem d_Mpg_checkName_58 : decode b_Mpg_checkName 58 = .ok (.iaload, 1) := by decide +kernel
theorem d_Mpg_checkName_59 : decode b_Mpg_checkName 59 = .ok (.iastore, 1) := by decide +kernel
theorem d_Mpg_checkName_60 : decode b_Mpg_checkName 60 = .ok (.iload_n 3, 1) := by decide +kernel
theorem d_Mpg_checkName_61 : decode b_Mpg_checkName 61 = .ok (.iconst 2, 1) := by decide +kernel
theorem d_Mpg_checkName_62 : decode b_Mpg_checkName 62 = .ok (.if_icmp .ne 7, 3) := by decide +kernel
theorem d_Mpg_checkName_65 : decode b_Mpg_checkName 65 = .ok (.iconst 2, 1) := by decide +kernel
theorem d_Mpg_checkName_66 : decode b_Mpg_checkName 66 = .ok (.goto 13, 3) := by decide +kernel
theorem d_Mpg_checkName_69 : decode b_Mpg_checkName 69 = .ok (.iload_n 3, 1) := by decide +kernel
theorem d_Mpg_checkName_70 : decode b_Mpg_checkName 70 = .ok (.iconst 3, 1) := by decide +kernel
theorem d_Mpg_checkName_71 : decode b_Mpg_checkName 71 = .ok (.if_icmp .ne 7, 3) := by decide +kernel
theorem d_Mpg_checkName_74 : decode b_Mpg_checkName 74 = .ok (.iconst 3, 1) := by decide +kernel
theorem d_Mpg_checkName_75 : decode b_Mpg_checkName 75 = .ok (.goto 4, 3) := by decide +kernel
theorem d_Mpg_checkName_78 : decode b_Mpg_checkName 78 = .ok (.iconst 1, 1) := by decide +kernel
theorem d_Mpg_checkName_79 : decode b_Mpg_checkName 79 = .ok (.ireturn, 1) := by decide +kernel
theorem q_Mpg_checkName : px_y y_Mpg_checkName 1 := by unfold px_y; decide +kernel
set_option maxHeartbeats 4000000 in
set_option maxRecDepth 100000 in
theorem c_mp_checkName (l : Launch) (D : va_G) (cs : Nat → ClassId) (ma0 : Nat → Nat → Int32) (ys : Int) (ns : Int) (nf : Int) (kn : Int) (d : Nat) (lo : Int) (hi : Int) (h : Nat) (r : Nat → Nat) (g : Nat → Nat → Option Nat) (tf : Nat → Int32) (ta : Nat → Nat → Int32) (pf : Nat → Int32) (na : Nat → Nat → Int32) (wa : Nat → Nat → Int32) (ca : Nat → Nat → Int32) (ef : Nat → Int32) (ea : Nat → Nat → Int32) (xf : Nat → Int32) (xa : Nat → Nat → Int32) (ma : Nat → Nat → Int32) (cf : Nat → Int32) (p0 : Int32)  (g0 : 0 ≤ lo) (g1 : hi ≤ (pf 13).toInt) (g2 : (pf 13).toInt ≤ 2100) (g3 : (tf 6).toInt ≤ 2049) (g4 : (cf 33).toInt = kn) (g5 : 0 ≤ kn) (g6 : (cf 48).toInt = ns) (g7 : (cf 38).toInt = nf) (g8 : 0 ≤ nf) (g9 : (na 14 p0.toNatClampNeg).toInt = 2) (htk : TkI tf ta) (hfs : FsI (tf 6).toInt (pf 13).toInt na) (hwr : WrV cf (tf 6).toInt) (hkt : KnT (tf 6).toInt ca (cf 33).toInt) (hft : FnT (tf 6).toInt na ca (cf 38).toInt) (hks : KnS ca kn ns ys) (han : Ann na ma0 ma) (hec : EcV ta (tf 6).toInt na ma0 d lo hi p0) : MetI l y_Mpg_checkName b_Mpg_checkName 4 (.int) D cs 3 120 (0) (0) [.ref h, .int p0] [wdP cs h r g tf ta pf na ma wa cf ca ef ea xf xa] (oX (fun A U H => (oP A g U H)) [wdP cs h r g tf ta pf na ma wa cf ca ef ea xf xa]) (fun v ps => ∃ (ma' : Nat → Nat → Int32) (cf' : Nat → Int32), (ps = [wdP cs h r g tf ta pf na ma' wa cf' ca ef ea xf xa]) ∧ (KpE cf cf') ∧ (WrV cf' (tf 6).toInt) ∧ ((cf' 33).toInt = (cf 33).toInt) ∧ ((cf' 38).toInt = (cf 38).toInt) ∧ ((cf' 48).toInt = (cf 48).toInt) ∧ ((cf' 46).toInt = (cf 46).toInt) ∧ ((cf' 47).toInt = (cf 47).toInt) ∧ ((cf' 57).toInt = (cf 57).toInt) ∧ (Ann na ma0 ma') ∧ (FrC lo hi ma ma') ∧ (0 ≤ v.toInt) ∧ (v.toInt ≤ 3) ∧ (NmO ta ca na ma' kn p0 v.toInt) ∧ (ZTy cf' (Gk ta ca na ma0 ns ys nf) na ma' lo hi p0 v.toInt) ∧ (R_mp_checkName ta na ca p0 ma cf ma' cf' v)) := by
  refine px_enter (by decide) (Nat.le_of_ble_eq_true rfl) ?_
  intro p e s m below meth c A ls hAe S hr hlk hnm hA hT hX hw hl
  have hl : lv_has ls 4 [(0, .ref h), (1, .int p0)] := hl
  have lp0 := Int32.le_toInt p0
  have up0 := Int32.toInt_lt p0
  have cst0 : (0 : Int32).toInt = 0 := rfl
  have cst1 : (1 : Int32).toInt = 1 := rfl
  have cst2 : (2 : Int32).toInt = 2 := rfl
  have cst3 : (3 : Int32).toInt = 3 := rfl
  have hX : (fun A U H => (oP A g U H)) A s s.heap := by rw [hAe]; exact hX
  have hP := hX
  have hZ := hP.1
  have hF0 := hP.2.1
  have hke : KpE cf cf := KpE.rf
  have hfc : FrC lo hi ma ma := FrC.rf
  have hwr0 := hwr.1
  have hk11 := hkt.1
  have hf11 := hft.1
  have hec_p0 := hec
  have hrg := EcV.rng hec
  refine lv_aload_n S.x S.b d_Mpg_checkName_0 rfl (lv_at hl 0 rfl) ?_
  refine lv_aload_n S.x S.b d_Mpg_checkName_1 rfl (lv_at hl 0 rfl) ?_
  refine gP_15 S hT hw 0 rfl m9_239 d_Mpg_checkName_2 ?_
  refine lv_iload_n S.x S.b d_Mpg_checkName_5 rfl (lv_at hl 1 rfl) ?_
  refine px_iald S hT hw 0 11 (n := 2100) (f := (na 15)) rfl gp_15 (x := p0) (vp_in_iff.mpr (by first | exact oz_a7e05de1cd hrg.2.2 hrg.2.1 g1 g2 | (constructor <;> omega))) d_Mpg_checkName_6 ?_
  refine lv_topi (fun z1 ez1 => ?_)
  have lz1 := Int32.le_toInt z1
  have uz1 := Int32.toInt_lt z1
  have rz1 := EcV.tok hec_p0 ez1
  refine lv_iconst (v := 0) S.x S.b d_Mpg_checkName_7 (by decide) ?_
  first | refine px_calli (pr := []) (px_runV (As := [.int z1, .int 0]) (rest := []) S (c_mp_find l D cs h r g tf ta pf na ma wa cf ca ef ea xf xa z1 0  (show 0 ≤ z1.toInt from rz1.1) (show z1.toInt < (tf 6).toInt from (oz_7fe81129bf rz1.2)) (show (tf 6).toInt ≤ 2049 from g3) (show 0 ≤ (0 : Int) from oz_5a341f00aa) (show 0 ≤ (cf 33).toInt from (oz_f3ebed1ad0 g4 g5)) htk (KnT.eq hkt (by omega)) _) hT (pr := []) (pcs := [wdP cs h r g tf ta pf na ma wa cf ca ef ea xf xa]) hw px_X.tt (px_recv hT hw 0 0 rfl rfl rfl) m12_181 m12_178 m12_180 ms_11_14 m1_21 q_Mpg_find ⟨Nat.le_of_ble_eq_true rfl, Nat.le_of_ble_eq_true rfl⟩ hl.1 rfl (Nat.le_of_ble_eq_true rfl) d_Mpg_checkName_8 ⟨Nat.le_of_ble_eq_true rfl, Nat.le_of_ble_eq_true rfl⟩) hw hA (fun v3 p2 H locs hp2 hw => ?_) | (refine px_calli (pr := []) (px_runV (As := [.int z1, .int 0]) (rest := []) S (c_mp_find l D cs h r g tf ta pf na ma wa cf ca ef ea xf xa z1 0  (show 0 ≤ z1.toInt from by first | exact rz1.1 | omega) (show z1.toInt < (tf 6).toInt from by first | exact oz_7fe81129bf rz1.2 | omega) (show (tf 6).toInt ≤ 2049 from by first | exact g3 | omega) (show 0 ≤ (0 : Int) from by first | exact oz_5a341f00aa | omega) (show 0 ≤ (cf 33).toInt from by first | exact oz_f3ebed1ad0 g4 g5 | omega) htk (KnT.eq hkt (by omega)) _) hT (pr := []) (pcs := [wdP cs h r g tf ta pf na ma wa cf ca ef ea xf xa]) hw px_X.tt (px_recv hT hw 0 0 rfl rfl rfl) m12_181 m12_178 m12_180 ms_11_14 m1_21 q_Mpg_find ⟨Nat.le_of_ble_eq_true rfl, Nat.le_of_ble_eq_true rfl⟩ hl.1 rfl (Nat.le_of_ble_eq_true rfl) d_Mpg_checkName_8 ⟨Nat.le_of_ble_eq_true rfl, Nat.le_of_ble_eq_true rfl⟩) hw hA (fun v3 p2 H locs hp2 hw => ?_))
  obtain ⟨rfl, e4, e5, e6, e7, e8⟩ := hp2
  have e4 : -1 ≤ v3.toInt := e4
  have e5 : v3.toInt < (cf 33).toInt := e5
  have e6 : 0 ≤ v3.toInt → (0 : Int) ≤ v3.toInt := e6
  have e7 : FndV ta ca (cf 33).toInt z1 (0 : Int) v3.toInt := e7
  have hfd := e7
  have e8 : R_mp_find ta cf ca z1 (0 : Int32) v3 := e8
  have lv3 := Int32.le_toInt v3
  have uv3 := Int32.toInt_lt v3
  refine lv_istore_n (lv' := [(2, .int v3), (0, .ref h), (1, .int p0)]) S.x S.b d_Mpg_checkName_11 rfl hl (by decide) rfl (fun ls hl => ?_)
  refine lv_iload_n S.x S.b d_Mpg_checkName_12 rfl (lv_at hl 0 rfl) ?_
  refine lv_if_ge (tgt := 29) S.x S.b d_Mpg_checkName_13 (by decide) (fun c9 => ?_) (fun c9 => ?_)
  · have nc9 : (0 : Int) ≤ v3.toInt := (i_le (x := 0) (y := v3)).mp c9
    refine lv_aload_n S.x S.b d_Mpg_checkName_29 rfl (lv_at hl 1 rfl) ?_
    refine gP_35 S hT hw 0 rfl m10_24 d_Mpg_checkName_30 ?_
    refine lv_iload_n S.x S.b d_Mpg_checkName_33 rfl (lv_at hl 0 rfl) ?_
    refine px_iald S hT hw 0 24 (n := 1100) (f := (ca 35)) rfl gp_35 (x := v3) (vp_in_iff.mpr (by first | exact oz_38f67f5f3e nc9 e5 hk11 | (constructor <;> omega))) d_Mpg_checkName_34 ?_
    refine lv_topi (fun z11 ez11 => ?_)
    have lz11 := Int32.le_toInt z11
    have uz11 := Int32.toInt_lt z11
    refine lv_istore_n (lv' := [(3, .int z11), (2, .int v3), (0, .ref h), (1, .int p0)]) S.x S.b d_Mpg_checkName_35 rfl hl (by decide) rfl (fun ls hl => ?_)
    refine lv_aload_n S.x S.b d_Mpg_checkName_36 rfl (lv_at hl 2 rfl) ?_
    refine gP_18 S hT hw 0 rfl m10_3 d_Mpg_checkName_37 ?_
    refine lv_iload_n S.x S.b d_Mpg_checkName_40 rfl (lv_at hl 3 rfl) ?_
    refine lv_aload_n S.x S.b d_Mpg_checkName_41 rfl (lv_at hl 2 rfl) ?_
    refine gP_53 S hT hw 0 rfl m10_48 d_Mpg_checkName_42 ?_
    refine lv_iload_n S.x S.b d_Mpg_checkName_45 rfl (lv_at hl 1 rfl) ?_
    refine px_iald S hT hw 0 32 (n := 1100) (f := (ca 53)) rfl gp_53 (x := v3) (vp_in_iff.mpr (by first | exact oz_38f67f5f3e nc9 e5 hk11 | (constructor <;> omega))) d_Mpg_checkName_46 ?_
    refine lv_topi (fun z12 ez12 => ?_)
    have lz12 := Int32.le_toInt z12
    have uz12 := Int32.toInt_lt z12
    have hkn := KnS.at hks (k := v3) (by omega) (by omega) ez11 ez12
    refine px_iast S hT hw 0 14 (n := 2100) (f := (ma 18)) (x := p0) (y := z12) rfl gp_18 (vp_in_iff.mpr (by constructor <;> omega)) d_Mpg_checkName_47 (w' := wdP cs h r g tf ta pf na (va_up ma 18 (upd (ma 18) p0.toNatClampNeg z12)) wa cf ca ef ea xf xa) (ps' := [wdP cs h r g tf ta pf na (va_up ma 18 (upd (ma 18) p0.toNatClampNeg z12)) wa cf ca ef ea xf xa]) sp_18 rfl (fun H locs hw => ?_)
    obtain ⟨ma13, hu_ma13⟩ : ∃ y : Nat → Nat → Int32, y = va_up ma 18 (upd (ma 18) p0.toNatClampNeg z12) := ⟨_, rfl⟩
    have hw : pw D A s.heap _ _ [wdP cs h r g tf ta pf na ma13 wa cf ca ef ea xf xa] := (by rw [hu_ma13]; exact hw)
    have hf1_ma13 : FrC p0.toInt (p0.toInt + 1) ma ma13 := (by rw [hu_ma13]; exact FrC.w FrC.rf (by omega) (by omega) (by omega))
    have han : Ann na ma0 ma13 := (by rw [hu_ma13]; exact Ann.w18 han (by omega))
    have hfc := hfc.tr hf1_ma13 (by omega) (by omega)
    have hv_18_p0 : ma13 18 p0.toNatClampNeg = z12 := (by rw [hu_ma13, va_up_s, pk_us])
    have hnhv_18_p0 : (ma13 18 p0.toNatClampNeg).toInt = z12.toInt := (by rw [hv_18_p0])
    refine lv_aload_n S.x S.b d_Mpg_checkName_48 rfl (lv_at hl 2 rfl) ?_
    refine gP_19 S hT hw 0 rfl m10_5 d_Mpg_checkName_49 ?_
    refine lv_iload_n S.x S.b d_Mpg_checkName_52 rfl (lv_at hl 3 rfl) ?_
    refine lv_aload_n S.x S.b d_Mpg_checkName_53 rfl (lv_at hl 2 rfl) ?_
    refine gP_36 S hT hw 0 rfl m10_25 d_Mpg_checkName_54 ?_
    refine lv_iload_n S.x S.b d_Mpg_checkName_57 rfl (lv_at hl 1 rfl) ?_
    refine px_iald S hT hw 0 25 (n := 1100) (f := (ca 36)) rfl gp_36 (x := v3) (vp_in_iff.mpr (by first | exact oz_38f67f5f3e nc9 e5 hk11 | (constructor <;> omega))) d_Mpg_checkName_58 ?_
    refine lv_topi (fun z14 ez14 => ?_)
    have lz14 := Int32.le_toInt z14
    have uz14 := Int32.toInt_lt z14
    refine px_iast S hT hw 0 15 (n := 2100) (f := (ma13 19)) (x := p0) (y := z14) rfl gp_19 (vp_in_iff.mpr (by constructor <;> omega)) d_Mpg_checkName_59 (w' := wdP cs h r g tf ta pf na (va_up ma13 19 (upd (ma13 19) p0.toNatClampNeg z14)) wa cf ca ef ea xf xa) (ps' := [wdP cs h r g tf ta pf na (va_up ma13 19 (upd (ma13 19) p0.toNatClampNeg z14)) wa cf ca ef ea xf xa]) sp_19 rfl (fun H locs hw => ?_)
    obtain ⟨ma15, hu_ma15⟩ : ∃ y : Nat → Nat → Int32, y = va_up ma13 19 (upd (ma13 19) p0.toNatClampNeg z14) := ⟨_, rfl⟩
    have hw : pw D A s.heap _ _ [wdP cs h r g tf ta pf na ma15 wa cf ca ef ea xf xa] := (by rw [hu_ma15]; exact hw)
    have hf1_ma15 : FrC p0.toInt (p0.toInt + 1) ma13 ma15 := (by rw [hu_ma15]; exact FrC.w FrC.rf (by omega) (by omega) (by omega))
    have han : Ann na ma0 ma15 := (by rw [hu_ma15]; exact Ann.w19 han (by omega))
    have hfc := hfc.tr hf1_ma15 (by omega) (by omega)
    have hqhv_18_p0 : (ma15 18 p0.toNatClampNeg).toInt = (ma13 18 p0.toNatClampNeg).toInt := (by rw [hu_ma15, va_up_n (by decide)])
    have hv_18_p0 := (show ma15 18 p0.toNatClampNeg = ma13 18 p0.toNatClampNeg by rw [hu_ma15, va_up_n (by decide)]).trans hv_18_p0
    have hv_19_p0 : ma15 19 p0.toNatClampNeg = z14 := (by rw [hu_ma15, va_up_s, pk_us])
    have hnhv_19_p0 : (ma15 19 p0.toNatClampNeg).toInt = z14.toInt := (by rw [hv_19_p0])
    refine lv_iload_n S.x S.b d_Mpg_checkName_60 rfl (lv_at hl 0 rfl) ?_
    refine lv_iconst (v := 2) S.x S.b d_Mpg_checkName_61 (by decide) ?_
    refine lv_icmp_ne (tgt := 69) S.x S.b d_Mpg_checkName_62 (by decide) (fun c16 => ?_) (fun c16 => ?_)
    · have nc16 : ¬ z11.toInt = (2 : Int) := mt (i_eq (x := z11) (y := 2)).mpr c16
      refine lv_iload_n S.x S.b d_Mpg_checkName_69 rfl (lv_at hl 0 rfl) ?_
      refine lv_iconst (v := 3) S.x S.b d_Mpg_checkName_70 (by decide) ?_
      refine lv_icmp_ne (tgt := 78) S.x S.b d_Mpg_checkName_71 (by decide) (fun c18 => ?_) (fun c18 => ?_)
      · have nc18 : ¬ z11.toInt = (3 : Int) := mt (i_eq (x := z11) (y := 3)).mpr c18
        refine lv_iconst (v := 1) S.x S.b d_Mpg_checkName_78 (by decide) ?_
        first | exact px_iret (v := 1) S hr rfl hlk hAe hw (Nat.le_of_ble_eq_true rfl) (Nat.le_of_ble_eq_true rfl) (⟨ma15, cf, rfl, (show KpE cf cf from hke), (show WrV cf (tf 6).toInt from hwr), (show (cf 33).toInt = (cf 33).toInt from rfl), (show (cf 38).toInt = (cf 38).toInt from rfl), (show (cf 48).toInt = (cf 48).toInt from rfl), (show (cf 46).toInt = (cf 46).toInt from rfl), (show (cf 47).toInt = (cf 47).toInt from rfl), (show (cf 57).toInt = (cf 57).toInt from rfl), (show Ann na ma0 ma15 from han), (show FrC lo hi ma ma15 from hfc), (show 0 ≤ (1 : Int) from oz_19c3a41681), (show (1 : Int) ≤ 3 from oz_2ac51dce56), (show NmO ta ca na ma15 kn p0 (1 : Int) from (nmo_1 hfd ez1 (by omega) (by omega) hv_18_p0 ez12 (by omega))), (show ZTy cf (Gk ta ca na ma0 ns ys nf) na ma15 lo hi p0 (1 : Int) from (fun _ => nm_ty hrg (by omega) hv_18_p0 hkn (by omega))), (show R_mp_checkName ta na ca p0 ma cf ma15 cf (1 : Int32) from (Or.inl ⟨z1, ez1, v3, e8, Or.inl ⟨nc9, z11, ez11, z12, ez12, ma13, hu_ma13, z14, ez14, ma15, hu_ma15, Or.inl ⟨nc16, Or.inl ⟨nc18, rfl, rfl, rfl⟩⟩⟩⟩))⟩) d_Mpg_checkName_79 | (exact px_iret (v := 1) S hr rfl hlk hAe hw (Nat.le_of_ble_eq_true rfl) (Nat.le_of_ble_eq_true rfl) (⟨ma15, cf, rfl, (show KpE cf cf from hke), (show WrV cf (tf 6).toInt from hwr), (show (cf 33).toInt = (cf 33).toInt from rfl), (show (cf 38).toInt = (cf 38).toInt from rfl), (show (cf 48).toInt = (cf 48).toInt from rfl), (show (cf 46).toInt = (cf 46).toInt from rfl), (show (cf 47).toInt = (cf 47).toInt from rfl), (show (cf 57).toInt = (cf 57).toInt from rfl), (show Ann na ma0 ma15 from han), (show FrC lo hi ma ma15 from hfc), (show 0 ≤ (1 : Int) from by first | exact oz_19c3a41681 | omega), (show (1 : Int) ≤ 3 from by first | exact oz_2ac51dce56 | omega), (show NmO ta ca na ma15 kn p0 (1 : Int) from (nmo_1 hfd ez1 (by omega) (by omega) hv_18_p0 ez12 (by omega))), (show ZTy cf (Gk ta ca na ma0 ns ys nf) na ma15 lo hi p0 (1 : Int) from (fun _ => nm_ty hrg (by omega) hv_18_p0 hkn (by omega))), (show R_mp_checkName ta na ca p0 ma cf ma15 cf (1 : Int32) from (Or.inl ⟨z1, ez1, v3, e8, Or.inl ⟨nc9, z11, ez11, z12, ez12, ma13, hu_ma13, z14, ez14, ma15, hu_ma15, Or.inl ⟨nc16, Or.inl ⟨nc18, rfl, rfl, rfl⟩⟩⟩⟩))⟩) d_Mpg_checkName_79)
      · have nc18 : z11.toInt = (3 : Int) := (i_eq (x := z11) (y := 3)).mp c18
        refine lv_iconst (v := 3) S.x S.b d_Mpg_checkName_74 (by decide) ?_
        refine lv_goto (tgt := 79) S.x S.b d_Mpg_checkName_75 (by decide) ?_
        first | exact px_iret (v := 3) S hr rfl hlk hAe hw (Nat.le_of_ble_eq_true rfl) (Nat.le_of_ble_eq_true rfl) (⟨ma15, cf, rfl, (show KpE cf cf from hke), (show WrV cf (tf 6).toInt from hwr), (show (cf 33).toInt = (cf 33).toInt from rfl), (show (cf 38).toInt = (cf 38).toInt from rfl), (show (cf 48).toInt = (cf 48).toInt from rfl), (show (cf 46).toInt = (cf 46).toInt from rfl), (show (cf 47).toInt = (cf 47).toInt from rfl), (show (cf 57).toInt = (cf 57).toInt from rfl), (show Ann na ma0 ma15 from han), (show FrC lo hi ma ma15 from hfc), (show 0 ≤ (3 : Int) from oz_e98d287a2d), (show (3 : Int) ≤ 3 from oz_067d7b82d1), (show NmO ta ca na ma15 kn p0 (3 : Int) from (nmo_1 hfd ez1 (by omega) (by omega) hv_18_p0 ez12 (by omega))), (show ZTy cf (Gk ta ca na ma0 ns ys nf) na ma15 lo hi p0 (3 : Int) from (fun _ => nm_ty hrg (by omega) hv_18_p0 hkn (by omega))), (show R_mp_checkName ta na ca p0 ma cf ma15 cf (3 : Int32) from (Or.inl ⟨z1, ez1, v3, e8, Or.inl ⟨nc9, z11, ez11, z12, ez12, ma13, hu_ma13, z14, ez14, ma15, hu_ma15, Or.inl ⟨nc16, Or.inr ⟨nc18, rfl, rfl, rfl⟩⟩⟩⟩))⟩) d_Mpg_checkName_79 | (exact px_iret (v := 3) S hr rfl hlk hAe hw (Nat.le_of_ble_eq_true rfl) (Nat.le_of_ble_eq_true rfl) (⟨ma15, cf, rfl, (show KpE cf cf from hke), (show WrV cf (tf 6).toInt from hwr), (show (cf 33).toInt = (cf 33).toInt from rfl), (show (cf 38).toInt = (cf 38).toInt from rfl), (show (cf 48).toInt = (cf 48).toInt from rfl), (show (cf 46).toInt = (cf 46).toInt from rfl), (show (cf 47).toInt = (cf 47).toInt from rfl), (show (cf 57).toInt = (cf 57).toInt from rfl), (show Ann na ma0 ma15 from han), (show FrC lo hi ma ma15 from hfc), (show 0 ≤ (3 : Int) from by first | exact oz_e98d287a2d | omega), (show (3 : Int) ≤ 3 from by first | exact oz_067d7b82d1 | omega), (show NmO ta ca na ma15 kn p0 (3 : Int) from (nmo_1 hfd ez1 (by omega) (by omega) hv_18_p0 ez12 (by omega))), (show ZTy cf (Gk ta ca na ma0 ns ys nf) na ma15 lo hi p0 (3 : Int) from (fun _ => nm_ty hrg (by omega) hv_18_p0 hkn (by omega))), (show R_mp_checkName ta na ca p0 ma cf ma15 cf (3 : Int32) from (Or.inl ⟨z1, ez1, v3, e8, Or.inl ⟨nc9, z11, ez11, z12, ez12, ma13, hu_ma13, z14, ez14, ma15, hu_ma15, Or.inl ⟨nc16, Or.inr ⟨nc18, rfl, rfl, rfl⟩⟩⟩⟩))⟩) d_Mpg_checkName_79)
    · have nc16 : z11.toInt = (2 : Int) := (i_eq (x := z11) (y := 2)).mp c16
      refine lv_iconst (v := 2) S.x S.b d_Mpg_checkName_65 (by decide) ?_
      refine lv_goto (tgt := 79) S.x S.b d_Mpg_checkName_66 (by decide) ?_
      first | exact px_iret (v := 2) S hr rfl hlk hAe hw (Nat.le_of_ble_eq_true rfl) (Nat.le_of_ble_eq_true rfl) (⟨ma15, cf, rfl, (show KpE cf cf from hke), (show WrV cf (tf 6).toInt from hwr), (show (cf 33).toInt = (cf 33).toInt from rfl), (show (cf 38).toInt = (cf 38).toInt from rfl), (show (cf 48).toInt = (cf 48).toInt from rfl), (show (cf 46).toInt = (cf 46).toInt from rfl), (show (cf 47).toInt = (cf 47).toInt from rfl), (show (cf 57).toInt = (cf 57).toInt from rfl), (show Ann na ma0 ma15 from han), (show FrC lo hi ma ma15 from hfc), (show 0 ≤ (2 : Int) from oz_42ded8c576), (show (2 : Int) ≤ 3 from oz_47ffbf2a6b), (show NmO ta ca na ma15 kn p0 (2 : Int) from (nmo_1 hfd ez1 (by omega) (by omega) hv_18_p0 ez12 (by omega))), (show ZTy cf (Gk ta ca na ma0 ns ys nf) na ma15 lo hi p0 (2 : Int) from (fun _ => nm_ty hrg (by omega) hv_18_p0 hkn (by omega))), (show R_mp_checkName ta na ca p0 ma cf ma15 cf (2 : Int32) from (Or.inl ⟨z1, ez1, v3, e8, Or.inl ⟨nc9, z11, ez11, z12, ez12, ma13, hu_ma13, z14, ez14, ma15, hu_ma15, Or.inr ⟨nc16, rfl, rfl, rfl⟩⟩⟩))⟩) d_Mpg_checkName_79 | (exact px_iret (v := 2) S hr rfl hlk hAe hw (Nat.le_of_ble_eq_true rfl) (Nat.le_of_ble_eq_true rfl) (⟨ma15, cf, rfl, (show KpE cf cf from hke), (show WrV cf (tf 6).toInt from hwr), (show (cf 33).toInt = (cf 33).toInt from rfl), (show (cf 38).toInt = (cf 38).toInt from rfl), (show (cf 48).toInt = (cf 48).toInt from rfl), (show (cf 46).toInt = (cf 46).toInt from rfl), (show (cf 47).toInt = (cf 47).toInt from rfl), (show (cf 57).toInt = (cf 57).toInt from rfl), (show Ann na ma0 ma15 from han), (show FrC lo hi ma ma15 from hfc), (show 0 ≤ (2 : Int) from by first | exact oz_42ded8c576 | omega), (show (2 : Int) ≤ 3 from by first | exact oz_47ffbf2a6b | omega), (show NmO ta ca na ma15 kn p0 (2 : Int) from (nmo_1 hfd ez1 (by omega) (by omega) hv_18_p0 ez12 (by omega))), (show ZTy cf (Gk ta ca na ma0 ns ys nf) na ma15 lo hi p0 (2 : Int) from (fun _ => nm_ty hrg (by omega) hv_18_p0 hkn (by omega))), (show R_mp_checkName ta na ca p0 ma cf ma15 cf (2 : Int32) from (Or.inl ⟨z1, ez1, v3, e8, Or.inl ⟨nc9, z11, ez11, z12, ez12, ma13, hu_ma13, z14, ez14, ma15, hu_ma15, Or.inr ⟨nc16, rfl, rfl, rfl⟩⟩⟩))⟩) d_Mpg_checkName_79)
  · have nc9 : ¬ (0 : Int) ≤ v3.toInt := mt (i_le (x := 0) (y := v3)).mpr c9
    refine lv_aload_n S.x S.b d_Mpg_checkName_16 rfl (lv_at hl 1 rfl) ?_
    refine lv_iconst (v := 2) S.x S.b d_Mpg_checkName_17 (by decide) ?_
    refine lv_aload_n S.x S.b d_Mpg_checkName_18 rfl (lv_at hl 1 rfl) ?_
    refine gP_15 S hT hw 0 rfl m9_239 d_Mpg_checkName_19 ?_
    refine lv_iload_n S.x S.b d_Mpg_checkName_22 rfl (lv_at hl 2 rfl) ?_
    refine px_iald S hT hw 0 11 (n := 2100) (f := (na 15)) rfl gp_15 (x := p0) (vp_in_iff.mpr (by first | exact oz_a7e05de1cd hrg.2.2 hrg.2.1 g1 g2 | (constructor <;> omega))) d_Mpg_checkName_23 ?_
    refine lv_topi (fun z20 ez20 => ?_)
    have lz20 := Int32.le_toInt z20
    have uz20 := Int32.toInt_lt z20
    have rz20 := EcV.tok hec_p0 ez20
    first | refine px_callv (pr := []) (px_runV (As := [.int 2, .int z20]) (rest := []) S (c_mp_bad l D cs h r g tf ta pf na ma wa ca ef ea xf xa cf 2 z20  (show 1 ≤ (2 : Int) from oz_eaf798137c) (show 0 ≤ z20.toInt from rz20.1) (show z20.toInt < (tf 6).toInt from (oz_7fe81129bf rz20.2)) htk hwr _) hT (pr := []) (pcs := [wdP cs h r g tf ta pf na ma wa cf ca ef ea xf xa]) hw px_X.tt (px_recv hT hw 0 0 rfl rfl rfl) m12_173 m12_170 m12_172 ms_11_12 m1_21 q_Mpg_bad ⟨Nat.le_of_ble_eq_true rfl, Nat.le_of_ble_eq_true rfl⟩ hl.1 rfl (Nat.le_of_ble_eq_true rfl) d_Mpg_checkName_24 ⟨Nat.le_of_ble_eq_true rfl, Nat.le_of_ble_eq_true rfl⟩) hw hA (fun p23 H locs hp23 hw => ?_) | (refine px_callv (pr := []) (px_runV (As := [.int 2, .int z20]) (rest := []) S (c_mp_bad l D cs h r g tf ta pf na ma wa ca ef ea xf xa cf 2 z20  (show 1 ≤ (2 : Int) from by first | exact oz_eaf798137c | omega) (show 0 ≤ z20.toInt from by first | exact rz20.1 | omega) (show z20.toInt < (tf 6).toInt from by first | exact oz_7fe81129bf rz20.2 | omega) htk hwr _) hT (pr := []) (pcs := [wdP cs h r g tf ta pf na ma wa cf ca ef ea xf xa]) hw px_X.tt (px_recv hT hw 0 0 rfl rfl rfl) m12_173 m12_170 m12_172 ms_11_12 m1_21 q_Mpg_bad ⟨Nat.le_of_ble_eq_true rfl, Nat.le_of_ble_eq_true rfl⟩ hl.1 rfl (Nat.le_of_ble_eq_true rfl) d_Mpg_checkName_24 ⟨Nat.le_of_ble_eq_true rfl, Nat.le_of_ble_eq_true rfl⟩) hw hA (fun p23 H locs hp23 hw => ?_))
    obtain ⟨cf22, rfl, e25, e26, e27, e28, e29, e30, e31, e32, e33, e34, e35, e36, e37, e38, e39, e40, e41, e42, e43, e44⟩ := hp23
    have e25 : KpE cf cf22 := e25
    have hke := (hke).tr e25
    have hkz_e25 := e25.2
    have e26 : WrV cf22 (tf 6).toInt := e26
    have hwr := e26
    have hw0_e26 := hwr.1
    have e27 : 1 ≤ (cf22 30).toInt := e27
    have e28 : (cf22 33).toInt = (cf 33).toInt := e28
    have e29 : (cf22 38).toInt = (cf 38).toInt := e29
    have e30 : (cf22 48).toInt = (cf 48).toInt := e30
    have e31 : (cf22 46).toInt = (cf 46).toInt := e31
    have e32 : (cf22 47).toInt = (cf 47).toInt := e32
    have e33 : (cf22 57).toInt = (cf 57).toInt := e33
    have e34 : (cf22 37).toInt = (cf 37).toInt := e34
    have e35 : (cf22 42).toInt = (cf 42).toInt := e35
    have e36 : (cf22 43).toInt = (cf 43).toInt := e36
    have e37 : (cf22 44).toInt = (cf 44).toInt := e37
    have e38 : (cf22 45).toInt = (cf 45).toInt := e38
    have e39 : (cf22 54).toInt = (cf 54).toInt := e39
    have e40 : (cf22 55).toInt = (cf 55).toInt := e40
    have e41 : (cf22 58).toInt = (cf 58).toInt := e41
    have e42 : (cf22 59).toInt = (cf 59).toInt := e42
    have e43 : (cf22 41).toInt = (cf 41).toInt := e43
    have e44 : R_mp_bad (2 : Int32) z20 cf cf22 := e44
    refine lv_iconst (v := 0) S.x S.b d_Mpg_checkName_27 (by decide) ?_
    first | exact px_iret (v := 0) S hr rfl hlk hAe hw (Nat.le_of_ble_eq_true rfl) (Nat.le_of_ble_eq_true rfl) (⟨ma, cf22, rfl, (show KpE cf cf22 from hke), (show WrV cf22 (tf 6).toInt from hwr), (show (cf22 33).toInt = (cf 33).toInt from e28), (show (cf22 38).toInt = (cf 38).toInt from e29), (show (cf22 48).toInt = (cf 48).toInt from e30), (show (cf22 46).toInt = (cf 46).toInt from e31), (show (cf22 47).toInt = (cf 47).toInt from e32), (show (cf22 57).toInt = (cf 57).toInt from e33), (show Ann na ma0 ma from han), (show FrC lo hi ma ma from hfc), (show 0 ≤ (0 : Int) from oz_5a341f00aa), (show (0 : Int) ≤ 3 from oz_0804a0fa7b), (show NmO ta ca na ma kn p0 (0 : Int) from (nmo_0 hfd ez1 (by omega) (by omega))), (show ZTy cf22 (Gk ta ca na ma0 ns ys nf) na ma lo hi p0 (0 : Int) from (zr_no (by omega))), (show R_mp_checkName ta na ca p0 ma cf ma cf22 (0 : Int32) from (Or.inl ⟨z1, ez1, v3, e8, Or.inr ⟨nc9, z20, ez20, cf22, e44, rfl, rfl, rfl⟩⟩))⟩) d_Mpg_checkName_28 | (exact px_iret (v := 0) S hr rfl hlk hAe hw (Nat.le_of_ble_eq_true rfl) (Nat.le_of_ble_eq_true rfl) (⟨ma, cf22, rfl, (show KpE cf cf22 from hke), (show WrV cf22 (tf 6).toInt from hwr), (show (cf22 33).toInt = (cf 33).toInt from by first | exact e28 | omega), (show (cf22 38).toInt = (cf 38).toInt from by first | exact e29 | omega), (show (cf22 48).toInt = (cf 48).toInt from by first | exact e30 | omega), (show (cf22 46).toInt = (cf 46).toInt from by first | exact e31 | omega), (show (cf22 47).toInt = (cf 47).toInt from by first | exact e32 | omega), (show (cf22 57).toInt = (cf 57).toInt from by first | exact e33 | omega), (show Ann na ma0 ma from han), (show FrC lo hi ma ma from hfc), (show 0 ≤ (0 : Int) from by first | exact oz_5a341f00aa | omega), (show (0 : Int) ≤ 3 from by first | exact oz_0804a0fa7b | omega), (show NmO ta ca na ma kn p0 (0 : Int) from (nmo_0 hfd ez1 (by omega) (by omega))), (show ZTy cf22 (Gk ta ca na ma0 ns ys nf) na ma lo hi p0 (0 : Int) from (zr_no (by omega))), (show R_mp_checkName ta na ca p0 ma cf ma cf22 (0 : Int32) from (Or.inl ⟨z1, ez1, v3, e8, Or.inr ⟨nc9, z20, ez20, cf22, e44, rfl, rfl, rfl⟩⟩))⟩) d_Mpg_checkName_28)
abbrev b_Mpg_checkIndex : ByteArray := prog_16_method_77_code
def y_Mpg_checkIndex : MethodName := ⟨"HomeSystemModel$Program", "checkIndex", "(I)V"⟩
theorem d_Mpg_checkIndex_0 : decode b_Mpg_checkIndex 0 = .ok (.aload_n 0, 1) := by decide +kernel
theorem d_Mpg_checkIndex_1 : decode b_Mpg_checkIndex 1 = .ok (.getfield 210, 3) := by decide +kernel
theorem d_Mpg_checkIndex_4 : decode b_Mpg_checkIndex 4 = .ok (.iload_n 1, 1) := by decide +kernel
theorem d_Mpg_checkIndex_5 : decode b_Mpg_checkIndex 5 = .ok (.iaload, 1) := by decide +kernel
theorem d_Mpg_checkIndex_6 : decode b_Mpg_checkIndex 6 = .ok (.istore_n 2, 1) := by decide +kernel
theorem d_Mpg_checkIndex_7 : decode b_Mpg_checkIndex 7 = .ok (.aload_n 0, 1) := by decide +kernel
theorem d_Mpg_checkIndex_8 : decode b_Mpg_checkIndex 8 = .ok (.iload_n 2, 1) := by decide +kernel
theorem d_Mpg_checkIndex_9 : decode b_Mpg_checkIndex 9 = .ok (.iconst 0, 1) := by decide +kernel
theorem d_Mpg_checkIndex_10 : decode b_Mpg_checkIndex 10 = .ok (.invokevirtual 559, 3) := by decide +kernel
theorem d_Mpg_checkIndex_13 : decode b_Mpg_checkIndex 13 = .ok (.istore_n 3, 1) := by decide +kernel
theorem d_Mpg_checkIndex_14 : decode b_Mpg_checkIndex 14 = .ok (.iload_n 3, 1) := by decide +kernel
theorem d_Mpg_checkIndex_15 : decode b_Mpg_checkIndex 15 = .ok (.ifCond .ge 20, 3) := by decide +kernel
theorem d_Mpg_checkIndex_18 : decode b_Mpg_checkIndex 18 = .ok (.aload_n 0, 1) := by decide +kernel
theorem d_Mpg_checkIndex_19 : decode b_Mpg_checkIndex 19 = .ok (.iload_n 2, 1) := by decide +kernel
theorem d_Mpg_checkIndex_20 : decode b_Mpg_checkIndex 20 = .ok (.invokevirtual 562, 3) := by decide +kernel
theorem d_Mpg_checkIndex_23 : decode b_Mpg_checkIndex 23 = .ok (.ifCond .ne 12, 3) := by decide +kernel
theorem d_Mpg_checkIndex_26 : decode b_Mpg_checkIndex 26 = .ok (.aload_n 0, 1) := by decide +kernel
theorem d_Mpg_checkIndex_27 : decode b_Mpg_checkIndex 27 = .ok (.iconst 2, 1) := by decide +kernel
theorem d_Mpg_checkIndex_28 : decode b_Mpg_checkIndex 28 = .ok (.iload_n 2, 1) := by decide +kernel
theorem d_Mpg_checkIndex_29 : decode b_Mpg_checkIndex 29 = .ok (.invokevirtual 565, 3) := by decide +kernel
theorem d_Mpg_checkIndex_32 : decode b_Mpg_checkIndex 32 = .ok (.goto 48, 3) := by decide +kernel
theorem d_Mpg_checkIndex_35 : decode b_Mpg_checkIndex 35 = .ok (.iload_n 3, 1) := by decide +kernel
theorem d_Mpg_checkIndex_36 : decode b_Mpg_checkIndex 36 = .ok (.ifCond .lt 23, 3) := by decide +kernel
theorem d_Mpg_checkIndex_39 : decode b_Mpg_checkIndex 39 = .ok (.aload_n 0, 1) := by decide +kernel
theorem d_Mpg_checkIndex_40 : decode b_Mpg_checkIndex 40 = .ok (.getfield 249, 3) := by decide +kernel
theorem d_Mpg_checkIndex_43 : decode b_Mpg_checkIndex 43 = .ok (.iload_n 3, 1) := by decide +kernel
theorem d_Mpg_checkIndex_44 : decode b_Mpg_checkIndex 44 = .ok (.iaload, 1) := by decide +kernel
theorem d_Mpg_checkIndex_45 : decode b_Mpg_checkIndex 45 = .ok (.iconst 2, 1) := by decide +kernel
theorem d_Mpg_checkIndex_46 : decode b_Mpg_checkIndex 46 = .ok (.if_icmp .eq 22, 3) := by decide +kernel
theorem d_Mpg_checkIndex_49 : decode b_Mpg_checkIndex 49 = .ok (.aload_n 0, 1) := by decide +kernel
theorem d_Mpg_checkIndex_50 : decode b_Mpg_checkIndex 50 = .ok (.getfield 249, 3) := by decide +kernel
theorem d_Mpg_checkIndex_53 : decode b_Mpg_checkIndex 53 = .ok (.iload_n 3, 1) := by decide +kernel
theorem d_Mpg_checkIndex_54 : decode b_Mpg_checkIndex 54 = .ok (.iaload, 1) := by decide +kernel
theorem d_Mpg_checkIndex_55 : decode b_Mpg_checkIndex 55 = .ok (.iconst 3, 1) := by decide +kernel
theorem d_Mpg_checkIndex_56 : decode b_Mpg_checkIndex 56 = .ok (.if_icmp .eq 12, 3) := by decide +kernel
theorem d_Mpg_checkIndex_59 : decode b_Mpg_checkIndex 59 = .ok (.aload_n 0, 1) := by decide +kernel
theorem d_Mpg_checkIndex_60 : decode b_Mpg_checkIndex 60 = .ok (.iconst 3, 1) := by decide +kernel
theorem d_Mpg_checkIndex_61 : decode b_Mpg_checkIndex 61 = .ok (.iload_n 2, 1) := by decide +kernel
theorem d_Mpg_checkIndex_62 : decode b_Mpg_checkIndex 62 = .ok (.invokevirtual 565, 3) := by decide +kernel
theorem d_Mpg_checkIndex_65 : decode b_Mpg_checkIndex 65 = .ok (.goto 15, 3) := by decide +kernel
theorem d_Mpg_checkIndex_68 : decode b_Mpg_checkIndex 68 = .ok (.aload_n 0, 1) := by decide +kernel
theorem d_Mpg_checkIndex_69 : decode b_Mpg_checkIndex 69 = .ok (.getfield 219, 3) := by decide +kernel
theorem d_Mpg_checkIndex_72 : decode b_Mpg_checkIndex 72 = .ok (.iload_n 1, 1) := by decide +kernel
theorem d_Mpg_checkIndex_73 : decode b_Mpg_checkIndex 73 = .ok (.aload_n 0, 1) := by decide +kernel
theorem d_Mpg_checkIndex_74 : decode b_Mpg_checkIndex 74 = .ok (.getfield 274, 3) := by decide +kernel
theorem d_Mpg_checkIndex_77 : decode b_Mpg_checkIndex 77 = .ok (.iload_n 3, 1) := by decide +kernel
theorem d_Mpg_checkIndex_78 : decode b_Mpg_checkIndex 78 = .ok (.iaload, 1) := by decide +kernel
theorem d_Mpg_checkIndex_79 : decode b_Mpg_checkIndex 79 = .ok (.iastore, 1) := by decide +kernel
theorem d_Mpg_checkIndex_80 : decode b_Mpg_checkIndex 80 = .ok (.return_, 1) := by decide +kernel
theorem q_Mpg_checkIndex : px_y y_Mpg_checkIndex 1 := by unfold px_y; decide +kernel
set_option maxHeartbeats 4000000 in
set_option maxRecDepth 100000 in
theorem c_mp_checkIndex (l : Launch) (D : va_G) (cs : Nat → ClassId) (ma0 : Nat → Nat → Int32) (ys : Int) (ns : Int) (nf : Int) (kn : Int) (d : Nat) (lo : Int) (hi : Int) (h : Nat) (r : Nat → Nat) (g : Nat → Nat → Option Nat) (tf : Nat → Int32) (ta : Nat → Nat → Int32) (pf : Nat → Int32) (na : Nat → Nat → Int32) (wa : Nat → Nat → Int32) (ca : Nat → Nat → Int32) (ef : Nat → Int32) (ea : Nat → Nat → Int32) (xf : Nat → Int32) (xa : Nat → Nat → Int32) (ma : Nat → Nat → Int32) (cf : Nat → Int32) (p0 : Int32)  (g0 : 0 ≤ lo) (g1 : hi ≤ (pf 13).toInt) (g2 : (pf 13).toInt ≤ 2100) (g3 : (tf 6).toInt ≤ 2049) (g4 : (cf 33).toInt = kn) (g5 : 0 ≤ kn) (g6 : (cf 48).toInt = ns) (g7 : (cf 38).toInt = nf) (g8 : 0 ≤ nf) (g9 : (na 14 p0.toNatClampNeg).toInt = 4) (htk : TkI tf ta) (hfs : FsI (tf 6).toInt (pf 13).toInt na) (hwr : WrV cf (tf 6).toInt) (hkt : KnT (tf 6).toInt ca (cf 33).toInt) (hft : FnT (tf 6).toInt na ca (cf 38).toInt) (hks : KnS ca kn ns ys) (han : Ann na ma0 ma) (hec : EcV ta (tf 6).toInt na ma0 d lo hi p0) : MetV l y_Mpg_checkIndex b_Mpg_checkIndex 4 D cs 8 330 (0) (0) [.ref h, .int p0] [wdP cs h r g tf ta pf na ma wa cf ca ef ea xf xa] (oX (fun A U H => (oP A g U H)) [wdP cs h r g tf ta pf na ma wa cf ca ef ea xf xa]) (fun ps => ∃ (ma' : Nat → Nat → Int32) (cf' : Nat → Int32), (ps = [wdP cs h r g tf ta pf na ma' wa cf' ca ef ea xf xa]) ∧ (KpE cf cf') ∧ (WrV cf' (tf 6).toInt) ∧ ((cf' 33).toInt = (cf 33).toInt) ∧ ((cf' 38).toInt = (cf 38).toInt) ∧ ((cf' 48).toInt = (cf 48).toInt) ∧ ((cf' 46).toInt = (cf 46).toInt) ∧ ((cf' 47).toInt = (cf 47).toInt) ∧ ((cf' 57).toInt = (cf 57).toInt) ∧ (Ann na ma0 ma') ∧ (FrC lo hi ma ma') ∧ (ZSA cf' ca ns ys ma' p0) ∧ (R_mp_checkIndex tf ta na ca p0 ma cf ma' cf')) := by
  refine px_enter (by decide) (Nat.le_of_ble_eq_true rfl) ?_
  intro p e s m below meth c A ls hAe S hr hlk hnm hA hT hX hw hl
  have hl : lv_has ls 4 [(0, .ref h), (1, .int p0)] := hl
  have lp0 := Int32.le_toInt p0
  have up0 := Int32.toInt_lt p0
  have cst0 : (0 : Int32).toInt = 0 := rfl
  have cst2 : (2 : Int32).toInt = 2 := rfl
  have cst3 : (3 : Int32).toInt = 3 := rfl
  have hX : (fun A U H => (oP A g U H)) A s s.heap := by rw [hAe]; exact hX
  have hP := hX
  have hZ := hP.1
  have hF0 := hP.2.1
  have hke : KpE cf cf := KpE.rf
  have hfc : FrC lo hi ma ma := FrC.rf
  have hwr0 := hwr.1
  have hk11 := hkt.1
  have hf11 := hft.1
  have hec_p0 := hec
  have hrg := EcV.rng hec
  refine lv_aload_n S.x S.b d_Mpg_checkIndex_0 rfl (lv_at hl 0 rfl) ?_
  refine gP_15 S hT hw 0 rfl m9_239 d_Mpg_checkIndex_1 ?_
  refine lv_iload_n S.x S.b d_Mpg_checkIndex_4 rfl (lv_at hl 1 rfl) ?_
  refine px_iald S hT hw 0 11 (n := 2100) (f := (na 15)) rfl gp_15 (x := p0) (vp_in_iff.mpr (by first | exact oz_a7e05de1cd hrg.2.2 hrg.2.1 g1 g2 | (constructor <;> omega))) d_Mpg_checkIndex_5 ?_
  refine lv_topi (fun z1 ez1 => ?_)
  have lz1 := Int32.le_toInt z1
  have uz1 := Int32.toInt_lt z1
  have rz1 := EcV.tok hec_p0 ez1
  refine lv_istore_n (lv' := [(2, .int z1), (0, .ref h), (1, .int p0)]) S.x S.b d_Mpg_checkIndex_6 rfl hl (by decide) rfl (fun ls hl => ?_)
  refine lv_aload_n S.x S.b d_Mpg_checkIndex_7 rfl (lv_at hl 1 rfl) ?_
  refine lv_iload_n S.x S.b d_Mpg_checkIndex_8 rfl (lv_at hl 0 rfl) ?_
  refine lv_iconst (v := 0) S.x S.b d_Mpg_checkIndex_9 (by decide) ?_
  first | refine px_calli (pr := []) (px_runV (As := [.int z1, .int 0]) (rest := []) S (c_mp_find l D cs h r g tf ta pf na ma wa cf ca ef ea xf xa z1 0  (show 0 ≤ z1.toInt from rz1.1) (show z1.toInt < (tf 6).toInt from (oz_7fe81129bf rz1.2)) (show (tf 6).toInt ≤ 2049 from g3) (show 0 ≤ (0 : Int) from oz_5a341f00aa) (show 0 ≤ (cf 33).toInt from (oz_f3ebed1ad0 g4 g5)) htk (KnT.eq hkt (by omega)) _) hT (pr := []) (pcs := [wdP cs h r g tf ta pf na ma wa cf ca ef ea xf xa]) hw px_X.tt (px_recv hT hw 0 0 rfl rfl rfl) m12_181 m12_178 m12_180 ms_11_14 m1_21 q_Mpg_find ⟨Nat.le_of_ble_eq_true rfl, Nat.le_of_ble_eq_true rfl⟩ hl.1 rfl (Nat.le_of_ble_eq_true rfl) d_Mpg_checkIndex_10 ⟨Nat.le_of_ble_eq_true rfl, Nat.le_of_ble_eq_true rfl⟩) hw hA (fun v3 p2 H locs hp2 hw => ?_) | (refine px_calli (pr := []) (px_runV (As := [.int z1, .int 0]) (rest := []) S (c_mp_find l D cs h r g tf ta pf na ma wa cf ca ef ea xf xa z1 0  (show 0 ≤ z1.toInt from by first | exact rz1.1 | omega) (show z1.toInt < (tf 6).toInt from by first | exact oz_7fe81129bf rz1.2 | omega) (show (tf 6).toInt ≤ 2049 from by first | exact g3 | omega) (show 0 ≤ (0 : Int) from by first | exact oz_5a341f00aa | omega) (show 0 ≤ (cf 33).toInt from by first | exact oz_f3ebed1ad0 g4 g5 | omega) htk (KnT.eq hkt (by omega)) _) hT (pr := []) (pcs := [wdP cs h r g tf ta pf na ma wa cf ca ef ea xf xa]) hw px_X.tt (px_recv hT hw 0 0 rfl rfl rfl) m12_181 m12_178 m12_180 ms_11_14 m1_21 q_Mpg_find ⟨Nat.le_of_ble_eq_true rfl, Nat.le_of_ble_eq_true rfl⟩ hl.1 rfl (Nat.le_of_ble_eq_true rfl) d_Mpg_checkIndex_10 ⟨Nat.le_of_ble_eq_true rfl, Nat.le_of_ble_eq_true rfl⟩) hw hA (fun v3 p2 H locs hp2 hw => ?_))
  obtain ⟨rfl, e4, e5, e6, e7, e8⟩ := hp2
  have e4 : -1 ≤ v3.toInt := e4
  have e5 : v3.toInt < (cf 33).toInt := e5
  have e6 : 0 ≤ v3.toInt → (0 : Int) ≤ v3.toInt := e6
  have e7 : FndV ta ca (cf 33).toInt z1 (0 : Int) v3.toInt := e7
  have hfd := e7
  have e8 : R_mp_find ta cf ca z1 (0 : Int32) v3 := e8
  have lv3 := Int32.le_toInt v3
  have uv3 := Int32.toInt_lt v3
  refine lv_istore_n (lv' := [(3, .int v3), (2, .int z1), (0, .ref h), (1, .int p0)]) S.x S.b d_Mpg_checkIndex_13 rfl hl (by decide) rfl (fun ls hl => ?_)
  refine lv_iload_n S.x S.b d_Mpg_checkIndex_14 rfl (lv_at hl 0 rfl) ?_
  refine lv_if_ge (tgt := 35) S.x S.b d_Mpg_checkIndex_15 (by decide) (fun c9 => ?_) (fun c9 => ?_)
  · have nc9 : (0 : Int) ≤ v3.toInt := (i_le (x := 0) (y := v3)).mp c9
    refine lv_iload_n S.x S.b d_Mpg_checkIndex_35 rfl (lv_at hl 0 rfl) ?_
    refine lv_if_lt (tgt := 59) S.x S.b d_Mpg_checkIndex_36 (by decide) (fun c11 => ?_) (fun c11 => ?_)
    · have nc11 : v3.toInt < (0 : Int) := (i_lt (x := v3) (y := 0)).mp c11
      refine lv_aload_n S.x S.b d_Mpg_checkIndex_59 rfl (lv_at hl 2 rfl) ?_
      refine lv_iconst (v := 3) S.x S.b d_Mpg_checkIndex_60 (by decide) ?_
      refine lv_iload_n S.x S.b d_Mpg_checkIndex_61 rfl (lv_at hl 1 rfl) ?_
      first | refine px_callv (pr := []) (px_runV (As := [.int 3, .int z1]) (rest := []) S (c_mp_bad l D cs h r g tf ta pf na ma wa ca ef ea xf xa cf 3 z1  (show 1 ≤ (3 : Int) from oz_00a6fa0b0d) (show 0 ≤ z1.toInt from rz1.1) (show z1.toInt < (tf 6).toInt from (oz_7fe81129bf rz1.2)) htk hwr _) hT (pr := []) (pcs := [wdP cs h r g tf ta pf na ma wa cf ca ef ea xf xa]) hw px_X.tt (px_recv hT hw 0 0 rfl rfl rfl) m12_173 m12_170 m12_172 ms_11_12 m1_21 q_Mpg_bad ⟨Nat.le_of_ble_eq_true rfl, Nat.le_of_ble_eq_true rfl⟩ hl.1 rfl (Nat.le_of_ble_eq_true rfl) d_Mpg_checkIndex_62 ⟨Nat.le_of_ble_eq_true rfl, Nat.le_of_ble_eq_true rfl⟩) hw hA (fun p15 H locs hp15 hw => ?_) | (refine px_callv (pr := []) (px_runV (As := [.int 3, .int z1]) (rest := []) S (c_mp_bad l D cs h r g tf ta pf na ma wa ca ef ea xf xa cf 3 z1  (show 1 ≤ (3 : Int) from by first | exact oz_00a6fa0b0d | omega) (show 0 ≤ z1.toInt from by first | exact rz1.1 | omega) (show z1.toInt < (tf 6).toInt from by first | exact oz_7fe81129bf rz1.2 | omega) htk hwr _) hT (pr := []) (pcs := [wdP cs h r g tf ta pf na ma wa cf ca ef ea xf xa]) hw px_X.tt (px_recv hT hw 0 0 rfl rfl rfl) m12_173 m12_170 m12_172 ms_11_12 m1_21 q_Mpg_bad ⟨Nat.le_of_ble_eq_true rfl, Nat.le_of_ble_eq_true rfl⟩ hl.1 rfl (Nat.le_of_ble_eq_true rfl) d_Mpg_checkIndex_62 ⟨Nat.le_of_ble_eq_true rfl, Nat.le_of_ble_eq_true rfl⟩) hw hA (fun p15 H locs hp15 hw => ?_))
      obtain ⟨cf14, rfl, e17, e18, e19, e20, e21, e22, e23, e24, e25, e26, e27, e28, e29, e30, e31, e32, e33, e34, e35, e36⟩ := hp15
      have e17 : KpE cf cf14 := e17
      have hke := (hke).tr e17
      have hkz_e17 := e17.2
      have e18 : WrV cf14 (tf 6).toInt := e18
      have hwr := e18
      have hw0_e18 := hwr.1
      have e19 : 1 ≤ (cf14 30).toInt := e19
      have e20 : (cf14 33).toInt = (cf 33).toInt := e20
      have e21 : (cf14 38).toInt = (cf 38).toInt := e21
      have e22 : (cf14 48).toInt = (cf 48).toInt := e22
      have e23 : (cf14 46).toInt = (cf 46).toInt := e23
      have e24 : (cf14 47).toInt = (cf 47).toInt := e24
      have e25 : (cf14 57).toInt = (cf 57).toInt := e25
      have e26 : (cf14 37).toInt = (cf 37).toInt := e26
      have e27 : (cf14 42).toInt = (cf 42).toInt := e27
      have e28 : (cf14 43).toInt = (cf 43).toInt := e28
      have e29 : (cf14 44).toInt = (cf 44).toInt := e29
      have e30 : (cf14 45).toInt = (cf 45).toInt := e30
      have e31 : (cf14 54).toInt = (cf 54).toInt := e31
      have e32 : (cf14 55).toInt = (cf 55).toInt := e32
      have e33 : (cf14 58).toInt = (cf 58).toInt := e33
      have e34 : (cf14 59).toInt = (cf 59).toInt := e34
      have e35 : (cf14 41).toInt = (cf 41).toInt := e35
      have e36 : R_mp_bad (3 : Int32) z1 cf cf14 := e36
      refine lv_goto (tgt := 80) S.x S.b d_Mpg_checkIndex_65 (by decide) ?_
      first | exact px_vret S hr hlk hAe hw (Nat.le_of_ble_eq_true rfl) (Nat.le_of_ble_eq_true rfl) (⟨ma, cf14, rfl, (show KpE cf cf14 from hke), (show WrV cf14 (tf 6).toInt from hwr), (show (cf14 33).toInt = (cf 33).toInt from e20), (show (cf14 38).toInt = (cf 38).toInt from e21), (show (cf14 48).toInt = (cf 48).toInt from e22), (show (cf14 46).toInt = (cf 46).toInt from e23), (show (cf14 47).toInt = (cf 47).toInt from e24), (show (cf14 57).toInt = (cf 57).toInt from e25), (show Ann na ma0 ma from han), (show FrC lo hi ma ma from hfc), (show ZSA cf14 ca ns ys ma p0 from (zr_no (by omega))), (show R_mp_checkIndex tf ta na ca p0 ma cf ma cf14 from (Or.inl ⟨z1, ez1, v3, e8, Or.inl ⟨nc9, Or.inl ⟨nc11, cf14, e36, rfl, rfl⟩⟩⟩))⟩) d_Mpg_checkIndex_80 | (exact px_vret S hr hlk hAe hw (Nat.le_of_ble_eq_true rfl) (Nat.le_of_ble_eq_true rfl) (⟨ma, cf14, rfl, (show KpE cf cf14 from hke), (show WrV cf14 (tf 6).toInt from hwr), (show (cf14 33).toInt = (cf 33).toInt from by first | exact e20 | omega), (show (cf14 38).toInt = (cf 38).toInt from by first | exact e21 | omega), (show (cf14 48).toInt = (cf 48).toInt from by first | exact e22 | omega), (show (cf14 46).toInt = (cf 46).toInt from by first | exact e23 | omega), (show (cf14 47).toInt = (cf 47).toInt from by first | exact e24 | omega), (show (cf14 57).toInt = (cf 57).toInt from by first | exact e25 | omega), (show Ann na ma0 ma from han), (show FrC lo hi ma ma from hfc), (show ZSA cf14 ca ns ys ma p0 from (zr_no (by omega))), (show R_mp_checkIndex tf ta na ca p0 ma cf ma cf14 from (Or.inl ⟨z1, ez1, v3, e8, Or.inl ⟨nc9, Or.inl ⟨nc11, cf14, e36, rfl, rfl⟩⟩⟩))⟩) d_Mpg_checkIndex_80)
    · have nc11 : ¬ v3.toInt < (0 : Int) := mt (i_lt (x := v3) (y := 0)).mpr c11
      refine lv_aload_n S.x S.b d_Mpg_checkIndex_39 rfl (lv_at hl 2 rfl) ?_
      refine gP_35 S hT hw 0 rfl m10_24 d_Mpg_checkIndex_40 ?_
      refine lv_iload_n S.x S.b d_Mpg_checkIndex_43 rfl (lv_at hl 0 rfl) ?_
      refine px_iald S hT hw 0 24 (n := 1100) (f := (ca 35)) rfl gp_35 (x := v3) (vp_in_iff.mpr (by first | exact oz_38f67f5f3e nc9 e5 hk11 | (constructor <;> omega))) d_Mpg_checkIndex_44 ?_
      refine lv_topi (fun z37 ez37 => ?_)
      have lz37 := Int32.le_toInt z37
      have uz37 := Int32.toInt_lt z37
      refine lv_iconst (v := 2) S.x S.b d_Mpg_checkIndex_45 (by decide) ?_
      refine lv_icmp_eq (tgt := 68) S.x S.b d_Mpg_checkIndex_46 (by decide) (fun c38 => ?_) (fun c38 => ?_)
      · have nc38 : z37.toInt = (2 : Int) := (i_eq (x := z37) (y := 2)).mp c38
        refine lv_aload_n S.x S.b d_Mpg_checkIndex_68 rfl (lv_at hl 2 rfl) ?_
        refine gP_18 S hT hw 0 rfl m10_3 d_Mpg_checkIndex_69 ?_
        refine lv_iload_n S.x S.b d_Mpg_checkIndex_72 rfl (lv_at hl 3 rfl) ?_
        refine lv_aload_n S.x S.b d_Mpg_checkIndex_73 rfl (lv_at hl 2 rfl) ?_
        refine gP_53 S hT hw 0 rfl m10_48 d_Mpg_checkIndex_74 ?_
        refine lv_iload_n S.x S.b d_Mpg_checkIndex_77 rfl (lv_at hl 0 rfl) ?_
        refine px_iald S hT hw 0 32 (n := 1100) (f := (ca 53)) rfl gp_53 (x := v3) (vp_in_iff.mpr (by first | exact oz_38f67f5f3e nc9 e5 hk11 | (constructor <;> omega))) d_Mpg_checkIndex_78 ?_
        refine lv_topi (fun z40 ez40 => ?_)
        have lz40 := Int32.le_toInt z40
        have uz40 := Int32.toInt_lt z40
        have hkn := KnS.at hks (k := v3) (by omega) (by omega) ez37 ez40
        refine px_iast S hT hw 0 14 (n := 2100) (f := (ma 18)) (x := p0) (y := z40) rfl gp_18 (vp_in_iff.mpr (by constructor <;> omega)) d_Mpg_checkIndex_79 (w' := wdP cs h r g tf ta pf na (va_up ma 18 (upd (ma 18) p0.toNatClampNeg z40)) wa cf ca ef ea xf xa) (ps' := [wdP cs h r g tf ta pf na (va_up ma 18 (upd (ma 18) p0.toNatClampNeg z40)) wa cf ca ef ea xf xa]) sp_18 rfl (fun H locs hw => ?_)
        obtain ⟨ma41, hu_ma41⟩ : ∃ y : Nat → Nat → Int32, y = va_up ma 18 (upd (ma 18) p0.toNatClampNeg z40) := ⟨_, rfl⟩
        have hw : pw D A s.heap _ _ [wdP cs h r g tf ta pf na ma41 wa cf ca ef ea xf xa] := (by rw [hu_ma41]; exact hw)
        have hf1_ma41 : FrC p0.toInt (p0.toInt + 1) ma ma41 := (by rw [hu_ma41]; exact FrC.w FrC.rf (by omega) (by omega) (by omega))
        have han : Ann na ma0 ma41 := (by rw [hu_ma41]; exact Ann.w18 han (by omega))
        have hfc := hfc.tr hf1_ma41 (by omega) (by omega)
        have hv_18_p0 : ma41 18 p0.toNatClampNeg = z40 := (by rw [hu_ma41, va_up_s, pk_us])
        have hnhv_18_p0 : (ma41 18 p0.toNatClampNeg).toInt = z40.toInt := (by rw [hv_18_p0])
        exact px_vret S hr hlk hAe hw (Nat.le_of_ble_eq_true rfl) (Nat.le_of_ble_eq_true rfl) (⟨ma41, cf, rfl, (show KpE cf cf from hke), (show WrV cf (tf 6).toInt from hwr), (show (cf 33).toInt = (cf 33).toInt from rfl), (show (cf 38).toInt = (cf 38).toInt from rfl), (show (cf 48).toInt = (cf 48).toInt from rfl), (show (cf 46).toInt = (cf 46).toInt from rfl), (show (cf 47).toInt = (cf 47).toInt from rfl), (show (cf 57).toInt = (cf 57).toInt from rfl), (show Ann na ma0 ma41 from han), (show FrC lo hi ma ma41 from hfc), (show ZSA cf ca ns ys ma41 p0 from (zsa_mk hv_18_p0 hkn (by omega))), (show R_mp_checkIndex tf ta na ca p0 ma cf ma41 cf from (Or.inl ⟨z1, ez1, v3, e8, Or.inl ⟨nc9, Or.inr ⟨nc11, z37, ez37, Or.inl ⟨nc38, z40, ez40, ma41, hu_ma41, rfl, rfl⟩⟩⟩⟩))⟩) d_Mpg_checkIndex_80
      · have nc38 : ¬ z37.toInt = (2 : Int) := mt (i_eq (x := z37) (y := 2)).mpr c38
        refine lv_aload_n S.x S.b d_Mpg_checkIndex_49 rfl (lv_at hl 2 rfl) ?_
        refine gP_35 S hT hw 0 rfl m10_24 d_Mpg_checkIndex_50 ?_
        refine lv_iload_n S.x S.b d_Mpg_checkIndex_53 rfl (lv_at hl 0 rfl) ?_
        refine px_iald S hT hw 0 24 (n := 1100) (f := (ca 35)) rfl gp_35 (x := v3) (vp_in_iff.mpr (by first | exact oz_38f67f5f3e nc9 e5 hk11 | (constructor <;> omega))) d_Mpg_checkIndex_54 ?_
        refine lv_topi (fun z42 ez42 => ?_)
        have lz42 := Int32.le_toInt z42
        have uz42 := Int32.toInt_lt z42
        refine lv_iconst (v := 3) S.x S.b d_Mpg_checkIndex_55 (by decide) ?_
        refine lv_icmp_eq (tgt := 68) S.x S.b d_Mpg_checkIndex_56 (by decide) (fun c43 => ?_) (fun c43 => ?_)
        · have nc43 : z42.toInt = (3 : Int) := (i_eq (x := z42) (y := 3)).mp c43
          refine lv_aload_n S.x S.b d_Mpg_checkIndex_68 rfl (lv_at hl 2 rfl) ?_
          refine gP_18 S hT hw 0 rfl m10_3 d_Mpg_checkIndex_69 ?_
          refine lv_iload_n S.x S.b d_Mpg_checkIndex_72 rfl (lv_at hl 3 rfl) ?_
          refine lv_aload_n S.x S.b d_Mpg_checkIndex_73 rfl (lv_at hl 2 rfl) ?_
          refine gP_53 S hT hw 0 rfl m10_48 d_Mpg_checkIndex_74 ?_
          refine lv_iload_n S.x S.b d_Mpg_checkIndex_77 rfl (lv_at hl 0 rfl) ?_
          refine px_iald S hT hw 0 32 (n := 1100) (f := (ca 53)) rfl gp_53 (x := v3) (vp_in_iff.mpr (by first | exact oz_38f67f5f3e nc9 e5 hk11 | (constructor <;> omega))) d_Mpg_checkIndex_78 ?_
          refine lv_topi (fun z45 ez45 => ?_)
          have lz45 := Int32.le_toInt z45
          have uz45 := Int32.toInt_lt z45
          have hkn := KnS.at hks (k := v3) (by omega) (by omega) ez42 ez45
          refine px_iast S hT hw 0 14 (n := 2100) (f := (ma 18)) (x := p0) (y := z45) rfl gp_18 (vp_in_iff.mpr (by constructor <;> omega)) d_Mpg_checkIndex_79 (w' := wdP cs h r g tf ta pf na (va_up ma 18 (upd (ma 18) p0.toNatClampNeg z45)) wa cf ca ef ea xf xa) (ps' := [wdP cs h r g tf ta pf na (va_up ma 18 (upd (ma 18) p0.toNatClampNeg z45)) wa cf ca ef ea xf xa]) sp_18 rfl (fun H locs hw => ?_)
          obtain ⟨ma46, hu_ma46⟩ : ∃ y : Nat → Nat → Int32, y = va_up ma 18 (upd (ma 18) p0.toNatClampNeg z45) := ⟨_, rfl⟩
          have hw : pw D A s.heap _ _ [wdP cs h r g tf ta pf na ma46 wa cf ca ef ea xf xa] := (by rw [hu_ma46]; exact hw)
          have hf1_ma46 : FrC p0.toInt (p0.toInt + 1) ma ma46 := (by rw [hu_ma46]; exact FrC.w FrC.rf (by omega) (by omega) (by omega))
          have han : Ann na ma0 ma46 := (by rw [hu_ma46]; exact Ann.w18 han (by omega))
          have hfc := hfc.tr hf1_ma46 (by omega) (by omega)
          have hv_18_p0 : ma46 18 p0.toNatClampNeg = z45 := (by rw [hu_ma46, va_up_s, pk_us])
          have hnhv_18_p0 : (ma46 18 p0.toNatClampNeg).toInt = z45.toInt := (by rw [hv_18_p0])
          exact px_vret S hr hlk hAe hw (Nat.le_of_ble_eq_true rfl) (Nat.le_of_ble_eq_true rfl) (⟨ma46, cf, rfl, (show KpE cf cf from hke), (show WrV cf (tf 6).toInt from hwr), (show (cf 33).toInt = (cf 33).toInt from rfl), (show (cf 38).toInt = (cf 38).toInt from rfl), (show (cf 48).toInt = (cf 48).toInt from rfl), (show (cf 46).toInt = (cf 46).toInt from rfl), (show (cf 47).toInt = (cf 47).toInt from rfl), (show (cf 57).toInt = (cf 57).toInt from rfl), (show Ann na ma0 ma46 from han), (show FrC lo hi ma ma46 from hfc), (show ZSA cf ca ns ys ma46 p0 from (zsa_mk hv_18_p0 hkn (by omega))), (show R_mp_checkIndex tf ta na ca p0 ma cf ma46 cf from (Or.inl ⟨z1, ez1, v3, e8, Or.inl ⟨nc9, Or.inr ⟨nc11, z37, ez37, Or.inr ⟨nc38, z42, ez42, Or.inl ⟨nc43, z45, ez45, ma46, hu_ma46, rfl, rfl⟩⟩⟩⟩⟩))⟩) d_Mpg_checkIndex_80
        · have nc43 : ¬ z42.toInt = (3 : Int) := mt (i_eq (x := z42) (y := 3)).mpr c43
          refine lv_aload_n S.x S.b d_Mpg_checkIndex_59 rfl (lv_at hl 2 rfl) ?_
          refine lv_iconst (v := 3) S.x S.b d_Mpg_checkIndex_60 (by decide) ?_
          refine lv_iload_n S.x S.b d_Mpg_checkIndex_61 rfl (lv_at hl 1 rfl) ?_
          first | refine px_callv (pr := []) (px_runV (As := [.int 3, .int z1]) (rest := []) S (c_mp_bad l D cs h r g tf ta pf na ma wa ca ef ea xf xa cf 3 z1  (show 1 ≤ (3 : Int) from oz_00a6fa0b0d) (show 0 ≤ z1.toInt from rz1.1) (show z1.toInt < (tf 6).toInt from (oz_7fe81129bf rz1.2)) htk hwr _) hT (pr := []) (pcs := [wdP cs h r g tf ta pf na ma wa cf ca ef ea xf xa]) hw px_X.tt (px_recv hT hw 0 0 rfl rfl rfl) m12_173 m12_170 m12_172 ms_11_12 m1_21 q_Mpg_bad ⟨Nat.le_of_ble_eq_true rfl, Nat.le_of_ble_eq_true rfl⟩ hl.1 rfl (Nat.le_of_ble_eq_true rfl) d_Mpg_checkIndex_62 ⟨Nat.le_of_ble_eq_true rfl, Nat.le_of_ble_eq_true rfl⟩) hw hA (fun p49 H locs hp49 hw => ?_) | (refine px_callv (pr := []) (px_runV (As := [.int 3, .int z1]) (rest := []) S (c_mp_bad l D cs h r g tf ta pf na ma wa ca ef ea xf xa cf 3 z1  (show 1 ≤ (3 : Int) from by first | exact oz_00a6fa0b0d | omega) (show 0 ≤ z1.toInt from by first | exact rz1.1 | omega) (show z1.toInt < (tf 6).toInt from by first | exact oz_7fe81129bf rz1.2 | omega) htk hwr _) hT (pr := []) (pcs := [wdP cs h r g tf ta pf na ma wa cf ca ef ea xf xa]) hw px_X.tt (px_recv hT hw 0 0 rfl rfl rfl) m12_173 m12_170 m12_172 ms_11_12 m1_21 q_Mpg_bad ⟨Nat.le_of_ble_eq_true rfl, Nat.le_of_ble_eq_true rfl⟩ hl.1 rfl (Nat.le_of_ble_eq_true rfl) d_Mpg_checkIndex_62 ⟨Nat.le_of_ble_eq_true rfl, Nat.le_of_ble_eq_true rfl⟩) hw hA (fun p49 H locs hp49 hw => ?_))
          obtain ⟨cf48, rfl, e51, e52, e53, e54, e55, e56, e57, e58, e59, e60, e61, e62, e63, e64, e65, e66, e67, e68, e69, e70⟩ := hp49
          have e51 : KpE cf cf48 := e51
          have hke := (hke).tr e51
          have hkz_e51 := e51.2
          have e52 : WrV cf48 (tf 6).toInt := e52
          have hwr := e52
          have hw0_e52 := hwr.1
          have e53 : 1 ≤ (cf48 30).toInt := e53
          have e54 : (cf48 33).toInt = (cf 33).toInt := e54
          have e55 : (cf48 38).toInt = (cf 38).toInt := e55
          have e56 : (cf48 48).toInt = (cf 48).toInt := e56
          have e57 : (cf48 46).toInt = (cf 46).toInt := e57
          have e58 : (cf48 47).toInt = (cf 47).toInt := e58
          have e59 : (cf48 57).toInt = (cf 57).toInt := e59
          have e60 : (cf48 37).toInt = (cf 37).toInt := e60
          have e61 : (cf48 42).toInt = (cf 42).toInt := e61
          have e62 : (cf48 43).toInt = (cf 43).toInt := e62
          have e63 : (cf48 44).toInt = (cf 44).toInt := e63
          have e64 : (cf48 45).toInt = (cf 45).toInt := e64
          have e65 : (cf48 54).toInt = (cf 54).toInt := e65
          have e66 : (cf48 55).toInt = (cf 55).toInt := e66
          have e67 : (cf48 58).toInt = (cf 58).toInt := e67
          have e68 : (cf48 59).toInt = (cf 59).toInt := e68
          have e69 : (cf48 41).toInt = (cf 41).toInt := e69
          have e70 : R_mp_bad (3 : Int32) z1 cf cf48 := e70
          refine lv_goto (tgt := 80) S.x S.b d_Mpg_checkIndex_65 (by decide) ?_
          first | exact px_vret S hr hlk hAe hw (Nat.le_of_ble_eq_true rfl) (Nat.le_of_ble_eq_true rfl) (⟨ma, cf48, rfl, (show KpE cf cf48 from hke), (show WrV cf48 (tf 6).toInt from hwr), (show (cf48 33).toInt = (cf 33).toInt from e54), (show (cf48 38).toInt = (cf 38).toInt from e55), (show (cf48 48).toInt = (cf 48).toInt from e56), (show (cf48 46).toInt = (cf 46).toInt from e57), (show (cf48 47).toInt = (cf 47).toInt from e58), (show (cf48 57).toInt = (cf 57).toInt from e59), (show Ann na ma0 ma from han), (show FrC lo hi ma ma from hfc), (show ZSA cf48 ca ns ys ma p0 from (zr_no (by omega))), (show R_mp_checkIndex tf ta na ca p0 ma cf ma cf48 from (Or.inl ⟨z1, ez1, v3, e8, Or.inl ⟨nc9, Or.inr ⟨nc11, z37, ez37, Or.inr ⟨nc38, z42, ez42, Or.inr ⟨nc43, cf48, e70, rfl, rfl⟩⟩⟩⟩⟩))⟩) d_Mpg_checkIndex_80 | (exact px_vret S hr hlk hAe hw (Nat.le_of_ble_eq_true rfl) (Nat.le_of_ble_eq_true rfl) (⟨ma, cf48, rfl, (show KpE cf cf48 from hke), (show WrV cf48 (tf 6).toInt from hwr), (show (cf48 33).toInt = (cf 33).toInt from by first | exact e54 | omega), (show (cf48 38).toInt = (cf 38).toInt from by first | exact e55 | omega), (show (cf48 48).toInt = (cf 48).toInt from by first | exact e56 | omega), (show (cf48 46).toInt = (cf 46).toInt from by first | exact e57 | omega), (show (cf48 47).toInt = (cf 47).toInt from by first | exact e58 | omega), (show (cf48 57).toInt = (cf 57).toInt from by first | exact e59 | omega), (show Ann na ma0 ma from han), (show FrC lo hi ma ma from hfc), (show ZSA cf48 ca ns ys ma p0 from (zr_no (by omega))), (show R_mp_checkIndex tf ta na ca p0 ma cf ma cf48 from (Or.inl ⟨z1, ez1, v3, e8, Or.inl ⟨nc9, Or.inr ⟨nc11, z37, ez37, Or.inr ⟨nc38, z42, ez42, Or.inr ⟨nc43, cf48, e70, rfl, rfl⟩⟩⟩⟩⟩))⟩) d_Mpg_checkIndex_80)
  · have nc9 : ¬ (0 : Int) ≤ v3.toInt := mt (i_le (x := 0) (y := v3)).mpr c9
    refine lv_aload_n S.x S.b d_Mpg_checkIndex_18 rfl (lv_at hl 2 rfl) ?_
    refine lv_iload_n S.x S.b d_Mpg_checkIndex_19 rfl (lv_at hl 1 rfl) ?_
    first | refine px_calli (pr := []) (px_runV (As := [.int z1]) (rest := []) S (c_mp_isFunction l D cs h r g tf ta pf na ma wa cf ca ef ea xf xa z1  (show 0 ≤ z1.toInt from rz1.1) (show z1.toInt < (tf 6).toInt from (oz_7fe81129bf rz1.2)) (show (tf 6).toInt ≤ 2049 from g3) (show 0 ≤ (cf 38).toInt from (oz_f3ebed1ad0 g7 g8)) htk (FnT.eq hft (by omega)) _) hT (pr := []) (pcs := [wdP cs h r g tf ta pf na ma wa cf ca ef ea xf xa]) hw (oX_call (P := (fun A U H => (oP A g U H))) (pr := []) oG_P hw hA hP) (px_recv hT hw 0 0 rfl rfl rfl) m12_185 m12_182 m12_184 ms_11_15 m1_21 q_Mpg_isFunction ⟨Nat.le_of_ble_eq_true rfl, Nat.le_of_ble_eq_true rfl⟩ hl.1 rfl (Nat.le_of_ble_eq_true rfl) d_Mpg_checkIndex_20 ⟨Nat.le_of_ble_eq_true rfl, Nat.le_of_ble_eq_true rfl⟩) hw hA (fun v72 p71 H locs hp71 hw => ?_) | (refine px_calli (pr := []) (px_runV (As := [.int z1]) (rest := []) S (c_mp_isFunction l D cs h r g tf ta pf na ma wa cf ca ef ea xf xa z1  (show 0 ≤ z1.toInt from by first | exact rz1.1 | omega) (show z1.toInt < (tf 6).toInt from by first | exact oz_7fe81129bf rz1.2 | omega) (show (tf 6).toInt ≤ 2049 from by first | exact g3 | omega) (show 0 ≤ (cf 38).toInt from by first | exact oz_f3ebed1ad0 g7 g8 | omega) htk (FnT.eq hft (by omega)) _) hT (pr := []) (pcs := [wdP cs h r g tf ta pf na ma wa cf ca ef ea xf xa]) hw (oX_call (P := (fun A U H => (oP A g U H))) (pr := []) oG_P hw hA hP) (px_recv hT hw 0 0 rfl rfl rfl) m12_185 m12_182 m12_184 ms_11_15 m1_21 q_Mpg_isFunction ⟨Nat.le_of_ble_eq_true rfl, Nat.le_of_ble_eq_true rfl⟩ hl.1 rfl (Nat.le_of_ble_eq_true rfl) d_Mpg_checkIndex_20 ⟨Nat.le_of_ble_eq_true rfl, Nat.le_of_ble_eq_true rfl⟩) hw hA (fun v72 p71 H locs hp71 hw => ?_))
    obtain ⟨rfl, e73, e74⟩ := hp71
    have e73 := z_rng e73
    have e74 : R_mp_isFunction tf ta na cf ca z1 v72 := e74
    have lv72 := Int32.le_toInt v72
    have uv72 := Int32.toInt_lt v72
    refine lv_if_ne (tgt := 35) S.x S.b d_Mpg_checkIndex_23 (by decide) (fun c75 => ?_) (fun c75 => ?_)
    · have nc75 : ¬ v72.toInt = (0 : Int) := mt (i_eq (x := v72) (y := 0)).mpr c75
      refine lv_iload_n S.x S.b d_Mpg_checkIndex_35 rfl (lv_at hl 0 rfl) ?_
      refine lv_if_lt (tgt := 59) S.x S.b d_Mpg_checkIndex_36 (by decide) (fun c77 => ?_) (fun c77 => ?_)
      · have nc77 : v3.toInt < (0 : Int) := (i_lt (x := v3) (y := 0)).mp c77
        refine lv_aload_n S.x S.b d_Mpg_checkIndex_59 rfl (lv_at hl 2 rfl) ?_
        refine lv_iconst (v := 3) S.x S.b d_Mpg_checkIndex_60 (by decide) ?_
        refine lv_iload_n S.x S.b d_Mpg_checkIndex_61 rfl (lv_at hl 1 rfl) ?_
        first | refine px_callv (pr := []) (px_runV (As := [.int 3, .int z1]) (rest := []) S (c_mp_bad l D cs h r g tf ta pf na ma wa ca ef ea xf xa cf 3 z1  (show 1 ≤ (3 : Int) from oz_00a6fa0b0d) (show 0 ≤ z1.toInt from rz1.1) (show z1.toInt < (tf 6).toInt from (oz_7fe81129bf rz1.2)) htk hwr _) hT (pr := []) (pcs := [wdP cs h r g tf ta pf na ma wa cf ca ef ea xf xa]) hw px_X.tt (px_recv hT hw 0 0 rfl rfl rfl) m12_173 m12_170 m12_172 ms_11_12 m1_21 q_Mpg_bad ⟨Nat.le_of_ble_eq_true rfl, Nat.le_of_ble_eq_true rfl⟩ hl.1 rfl (Nat.le_of_ble_eq_true rfl) d_Mpg_checkIndex_62 ⟨Nat.le_of_ble_eq_true rfl, Nat.le_of_ble_eq_true rfl⟩) hw hA (fun p81 H locs hp81 hw => ?_) | (refine px_callv (pr := []) (px_runV (As := [.int 3, .int z1]) (rest := []) S (c_mp_bad l D cs h r g tf ta pf na ma wa ca ef ea xf xa cf 3 z1  (show 1 ≤ (3 : Int) from by first | exact oz_00a6fa0b0d | omega) (show 0 ≤ z1.toInt from by first | exact rz1.1 | omega) (show z1.toInt < (tf 6).toInt from by first | exact oz_7fe81129bf rz1.2 | omega) htk hwr _) hT (pr := []) (pcs := [wdP cs h r g tf ta pf na ma wa cf ca ef ea xf xa]) hw px_X.tt (px_recv hT hw 0 0 rfl rfl rfl) m12_173 m12_170 m12_172 ms_11_12 m1_21 q_Mpg_bad ⟨Nat.le_of_ble_eq_true rfl, Nat.le_of_ble_eq_true rfl⟩ hl.1 rfl (Nat.le_of_ble_eq_true rfl) d_Mpg_checkIndex_62 ⟨Nat.le_of_ble_eq_true rfl, Nat.le_of_ble_eq_true rfl⟩) hw hA (fun p81 H locs hp81 hw => ?_))
        obtain ⟨cf80, rfl, e83, e84, e85, e86, e87, e88, e89, e90, e91, e92, e93, e94, e95, e96, e97, e98, e99, e100, e101, e102⟩ := hp81
        have e83 : KpE cf cf80 := e83
        have hke := (hke).tr e83
        have hkz_e83 := e83.2
        have e84 : WrV cf80 (tf 6).toInt := e84
        have hwr := e84
        have hw0_e84 := hwr.1
        have e85 : 1 ≤ (cf80 30).toInt := e85
        have e86 : (cf80 33).toInt = (cf 33).toInt := e86
        have e87 : (cf80 38).toInt = (cf 38).toInt := e87
        have e88 : (cf80 48).toInt = (cf 48).toInt := e88
        have e89 : (cf80 46).toInt = (cf 46).toInt := e89
        have e90 : (cf80 47).toInt = (cf 47).toInt := e90
        have e91 : (cf80 57).toInt = (cf 57).toInt := e91
        have e92 : (cf80 37).toInt = (cf 37).toInt := e92
        have e93 : (cf80 42).toInt = (cf 42).toInt := e93
        have e94 : (cf80 43).toInt = (cf 43).toInt := e94
        have e95 : (cf80 44).toInt = (cf 44).toInt := e95
        have e96 : (cf80 45).toInt = (cf 45).toInt := e96
        have e97 : (cf80 54).toInt = (cf 54).toInt := e97
        have e98 : (cf80 55).toInt = (cf 55).toInt := e98
        have e99 : (cf80 58).toInt = (cf 58).toInt := e99
        have e100 : (cf80 59).toInt = (cf 59).toInt := e100
        have e101 : (cf80 41).toInt = (cf 41).toInt := e101
        have e102 : R_mp_bad (3 : Int32) z1 cf cf80 := e102
        refine lv_goto (tgt := 80) S.x S.b d_Mpg_checkIndex_65 (by decide) ?_
        first | exact px_vret S hr hlk hAe hw (Nat.le_of_ble_eq_true rfl) (Nat.le_of_ble_eq_true rfl) (⟨ma, cf80, rfl, (show KpE cf cf80 from hke), (show WrV cf80 (tf 6).toInt from hwr), (show (cf80 33).toInt = (cf 33).toInt from e86), (show (cf80 38).toInt = (cf 38).toInt from e87), (show (cf80 48).toInt = (cf 48).toInt from e88), (show (cf80 46).toInt = (cf 46).toInt from e89), (show (cf80 47).toInt = (cf 47).toInt from e90), (show (cf80 57).toInt = (cf 57).toInt from e91), (show Ann na ma0 ma from han), (show FrC lo hi ma ma from hfc), (show ZSA cf80 ca ns ys ma p0 from (zr_no (by omega))), (show R_mp_checkIndex tf ta na ca p0 ma cf ma cf80 from (Or.inl ⟨z1, ez1, v3, e8, Or.inr ⟨nc9, v72, e74, Or.inl ⟨nc75, Or.inl ⟨nc77, cf80, e102, rfl, rfl⟩⟩⟩⟩))⟩) d_Mpg_checkIndex_80 | (exact px_vret S hr hlk hAe hw (Nat.le_of_ble_eq_true rfl) (Nat.le_of_ble_eq_true rfl) (⟨ma, cf80, rfl, (show KpE cf cf80 from hke), (show WrV cf80 (tf 6).toInt from hwr), (show (cf80 33).toInt = (cf 33).toInt from by first | exact e86 | omega), (show (cf80 38).toInt = (cf 38).toInt from by first | exact e87 | omega), (show (cf80 48).toInt = (cf 48).toInt from by first | exact e88 | omega), (show (cf80 46).toInt = (cf 46).toInt from by first | exact e89 | omega), (show (cf80 47).toInt = (cf 47).toInt from by first | exact e90 | omega), (show (cf80 57).toInt = (cf 57).toInt from by first | exact e91 | omega), (show Ann na ma0 ma from han), (show FrC lo hi ma ma from hfc), (show ZSA cf80 ca ns ys ma p0 from (zr_no (by omega))), (show R_mp_checkIndex tf ta na ca p0 ma cf ma cf80 from (Or.inl ⟨z1, ez1, v3, e8, Or.inr ⟨nc9, v72, e74, Or.inl ⟨nc75, Or.inl ⟨nc77, cf80, e102, rfl, rfl⟩⟩⟩⟩))⟩) d_Mpg_checkIndex_80)
      · have nc77 : ¬ v3.toInt < (0 : Int) := mt (i_lt (x := v3) (y := 0)).mpr c77
        refine lv_aload_n S.x S.b d_Mpg_checkIndex_39 rfl (lv_at hl 2 rfl) ?_
        refine gP_35 S hT hw 0 rfl m10_24 d_Mpg_checkIndex_40 ?_
        refine lv_iload_n S.x S.b d_Mpg_checkIndex_43 rfl (lv_at hl 0 rfl) ?_
        refine px_iald S hT hw 0 24 (n := 1100) (f := (ca 35)) rfl gp_35 (x := v3) (vp_in_iff.mpr (by first | exact oz_f8683445ad nc77 nc9 | (constructor <;> omega))) d_Mpg_checkIndex_44 ?_
        refine lv_topi (fun z103 ez103 => ?_)
        have lz103 := Int32.le_toInt z103
        have uz103 := Int32.toInt_lt z103
        refine lv_iconst (v := 2) S.x S.b d_Mpg_checkIndex_45 (by decide) ?_
        refine lv_icmp_eq (tgt := 68) S.x S.b d_Mpg_checkIndex_46 (by decide) (fun c104 => ?_) (fun c104 => ?_)
        · have nc104 : z103.toInt = (2 : Int) := (i_eq (x := z103) (y := 2)).mp c104
          refine lv_aload_n S.x S.b d_Mpg_checkIndex_68 rfl (lv_at hl 2 rfl) ?_
          refine gP_18 S hT hw 0 rfl m10_3 d_Mpg_checkIndex_69 ?_
          refine lv_iload_n S.x S.b d_Mpg_checkIndex_72 rfl (lv_at hl 3 rfl) ?_
          refine lv_aload_n S.x S.b d_Mpg_checkIndex_73 rfl (lv_at hl 2 rfl) ?_
          refine gP_53 S hT hw 0 rfl m10_48 d_Mpg_checkIndex_74 ?_
          refine lv_iload_n S.x S.b d_Mpg_checkIndex_77 rfl (lv_at hl 0 rfl) ?_
          refine px_iald S hT hw 0 32 (n := 1100) (f := (ca 53)) rfl gp_53 (x := v3) (vp_in_iff.mpr (by first | exact oz_f8683445ad nc77 nc9 | (constructor <;> omega))) d_Mpg_checkIndex_78 ?_
          refine lv_topi (fun z106 ez106 => ?_)
          have lz106 := Int32.le_toInt z106
          have uz106 := Int32.toInt_lt z106
          have hkn := KnS.at hks (k := v3) (by omega) (by omega) ez103 ez106
          refine px_iast S hT hw 0 14 (n := 2100) (f := (ma 18)) (x := p0) (y := z106) rfl gp_18 (vp_in_iff.mpr (by constructor <;> omega)) d_Mpg_checkIndex_79 (w' := wdP cs h r g tf ta pf na (va_up ma 18 (upd (ma 18) p0.toNatClampNeg z106)) wa cf ca ef ea xf xa) (ps' := [wdP cs h r g tf ta pf na (va_up ma 18 (upd (ma 18) p0.toNatClampNeg z106)) wa cf ca ef ea xf xa]) sp_18 rfl (fun H locs hw => ?_)
          obtain ⟨ma107, hu_ma107⟩ : ∃ y : Nat → Nat → Int32, y = va_up ma 18 (upd (ma 18) p0.toNatClampNeg z106) := ⟨_, rfl⟩
          have hw : pw D A s.heap _ _ [wdP cs h r g tf ta pf na ma107 wa cf ca ef ea xf xa] := (by rw [hu_ma107]; exact hw)
          have hf1_ma107 : FrC p0.toInt (p0.toInt + 1) ma ma107 := (by rw [hu_ma107]; exact FrC.w FrC.rf (by omega) (by omega) (by omega))
          have han : Ann na ma0 ma107 := (by rw [hu_ma107]; exact Ann.w18 han (by omega))
          have hfc := hfc.tr hf1_ma107 (by omega) (by omega)
          have hv_18_p0 : ma107 18 p0.toNatClampNeg = z106 := (by rw [hu_ma107, va_up_s, pk_us])
          have hnhv_18_p0 : (ma107 18 p0.toNatClampNeg).toInt = z106.toInt := (by rw [hv_18_p0])
          exact px_vret S hr hlk hAe hw (Nat.le_of_ble_eq_true rfl) (Nat.le_of_ble_eq_true rfl) (⟨ma107, cf, rfl, (show KpE cf cf from hke), (show WrV cf (tf 6).toInt from hwr), (show (cf 33).toInt = (cf 33).toInt from rfl), (show (cf 38).toInt = (cf 38).toInt from rfl), (show (cf 48).toInt = (cf 48).toInt from rfl), (show (cf 46).toInt = (cf 46).toInt from rfl), (show (cf 47).toInt = (cf 47).toInt from rfl), (show (cf 57).toInt = (cf 57).toInt from rfl), (show Ann na ma0 ma107 from han), (show FrC lo hi ma ma107 from hfc), (show ZSA cf ca ns ys ma107 p0 from (zsa_mk hv_18_p0 hkn (by omega))), (show R_mp_checkIndex tf ta na ca p0 ma cf ma107 cf from (Or.inl ⟨z1, ez1, v3, e8, Or.inr ⟨nc9, v72, e74, Or.inl ⟨nc75, Or.inr ⟨nc77, z103, ez103, Or.inl ⟨nc104, z106, ez106, ma107, hu_ma107, rfl, rfl⟩⟩⟩⟩⟩))⟩) d_Mpg_checkIndex_80
        · have nc104 : ¬ z103.toInt = (2 : Int) := mt (i_eq (x := z103) (y := 2)).mpr c104
          refine lv_aload_n S.x S.b d_Mpg_checkIndex_49 rfl (lv_at hl 2 rfl) ?_
          refine gP_35 S hT hw 0 rfl m10_24 d_Mpg_checkIndex_50 ?_
          refine lv_iload_n S.x S.b d_Mpg_checkIndex_53 rfl (lv_at hl 0 rfl) ?_
          refine px_iald S hT hw 0 24 (n := 1100) (f := (ca 35)) rfl gp_35 (x := v3) (vp_in_iff.mpr (by first | exact oz_f8683445ad nc77 nc9 | (constructor <;> omega))) d_Mpg_checkIndex_54 ?_
          refine lv_topi (fun z108 ez108 => ?_)
          have lz108 := Int32.le_toInt z108
          have uz108 := Int32.toInt_lt z108
          refine lv_iconst (v := 3) S.x S.b d_Mpg_checkIndex_55 (by decide) ?_
          refine lv_icmp_eq (tgt := 68) S.x S.b d_Mpg_checkIndex_56 (by decide) (fun c109 => ?_) (fun c109 => ?_)
          · have nc109 : z108.toInt = (3 : Int) := (i_eq (x := z108) (y := 3)).mp c109
            refine lv_aload_n S.x S.b d_Mpg_checkIndex_68 rfl (lv_at hl 2 rfl) ?_
            refine gP_18 S hT hw 0 rfl m10_3 d_Mpg_checkIndex_69 ?_
            refine lv_iload_n S.x S.b d_Mpg_checkIndex_72 rfl (lv_at hl 3 rfl) ?_
            refine lv_aload_n S.x S.b d_Mpg_checkIndex_73 rfl (lv_at hl 2 rfl) ?_
            refine gP_53 S hT hw 0 rfl m10_48 d_Mpg_checkIndex_74 ?_
            refine lv_iload_n S.x S.b d_Mpg_checkIndex_77 rfl (lv_at hl 0 rfl) ?_
            refine px_iald S hT hw 0 32 (n := 1100) (f := (ca 53)) rfl gp_53 (x := v3) (vp_in_iff.mpr (by first | exact oz_f8683445ad nc77 nc9 | (constructor <;> omega))) d_Mpg_checkIndex_78 ?_
            refine lv_topi (fun z111 ez111 => ?_)
            have lz111 := Int32.le_toInt z111
            have uz111 := Int32.toInt_lt z111
            have hkn := KnS.at hks (k := v3) (by omega) (by omega) ez108 ez111
            refine px_iast S hT hw 0 14 (n := 2100) (f := (ma 18)) (x := p0) (y := z111) rfl gp_18 (vp_in_iff.mpr (by constructor <;> omega)) d_Mpg_checkIndex_79 (w' := wdP cs h r g tf ta pf na (va_up ma 18 (upd (ma 18) p0.toNatClampNeg z111)) wa cf ca ef ea xf xa) (ps' := [wdP cs h r g tf ta pf na (va_up ma 18 (upd (ma 18) p0.toNatClampNeg z111)) wa cf ca ef ea xf xa]) sp_18 rfl (fun H locs hw => ?_)
            obtain ⟨ma112, hu_ma112⟩ : ∃ y : Nat → Nat → Int32, y = va_up ma 18 (upd (ma 18) p0.toNatClampNeg z111) := ⟨_, rfl⟩
            have hw : pw D A s.heap _ _ [wdP cs h r g tf ta pf na ma112 wa cf ca ef ea xf xa] := (by rw [hu_ma112]; exact hw)
            have hf1_ma112 : FrC p0.toInt (p0.toInt + 1) ma ma112 := (by rw [hu_ma112]; exact FrC.w FrC.rf (by omega) (by omega) (by omega))
            have han : Ann na ma0 ma112 := (by rw [hu_ma112]; exact Ann.w18 han (by omega))
            have hfc := hfc.tr hf1_ma112 (by omega) (by omega)
            have hv_18_p0 : ma112 18 p0.toNatClampNeg = z111 := (by rw [hu_ma112, va_up_s, pk_us])
            have hnhv_18_p0 : (ma112 18 p0.toNatClampNeg).toInt = z111.toInt := (by rw [hv_18_p0])
            exact px_vret S hr hlk hAe hw (Nat.le_of_ble_eq_true rfl) (Nat.le_of_ble_eq_true rfl) (⟨ma112, cf, rfl, (show KpE cf cf from hke), (show WrV cf (tf 6).toInt from hwr), (show (cf 33).toInt = (cf 33).toInt from rfl), (show (cf 38).toInt = (cf 38).toInt from rfl), (show (cf 48).toInt = (cf 48).toInt from rfl), (show (cf 46).toInt = (cf 46).toInt from rfl), (show (cf 47).toInt = (cf 47).toInt from rfl), (show (cf 57).toInt = (cf 57).toInt from rfl), (show Ann na ma0 ma112 from han), (show FrC lo hi ma ma112 from hfc), (show ZSA cf ca ns ys ma112 p0 from (zsa_mk hv_18_p0 hkn (by omega))), (show R_mp_checkIndex tf ta na ca p0 ma cf ma112 cf from (Or.inl ⟨z1, ez1, v3, e8, Or.inr ⟨nc9, v72, e74, Or.inl ⟨nc75, Or.inr ⟨nc77, z103, ez103, Or.inr ⟨nc104, z108, ez108, Or.inl ⟨nc109, z111, ez111, ma112, hu_ma112, rfl, rfl⟩⟩⟩⟩⟩⟩))⟩) d_Mpg_checkIndex_80
          · have nc109 : ¬ z108.toInt = (3 : Int) := mt (i_eq (x := z108) (y := 3)).mpr c109
            refine lv_aload_n S.x S.b d_Mpg_checkIndex_59 rfl (lv_at hl 2 rfl) ?_
            refine lv_iconst (v := 3) S.x S.b d_Mpg_checkIndex_60 (by decide) ?_
            refine lv_iload_n S.x S.b d_Mpg_checkIndex_61 rfl (lv_at hl 1 rfl) ?_
            first | refine px_callv (pr := []) (px_runV (As := [.int 3, .int z1]) (rest := []) S (c_mp_bad l D cs h r g tf ta pf na ma wa ca ef ea xf xa cf 3 z1  (show 1 ≤ (3 : Int) from oz_00a6fa0b0d) (show 0 ≤ z1.toInt from rz1.1) (show z1.toInt < (tf 6).toInt from (oz_7fe81129bf rz1.2)) htk hwr _) hT (pr := []) (pcs := [wdP cs h r g tf ta pf na ma wa cf ca ef ea xf xa]) hw px_X.tt (px_recv hT hw 0 0 rfl rfl rfl) m12_173 m12_170 m12_172 ms_11_12 m1_21 q_Mpg_bad ⟨Nat.le_of_ble_eq_true rfl, Nat.le_of_ble_eq_true rfl⟩ hl.1 rfl (Nat.le_of_ble_eq_true rfl) d_Mpg_checkIndex_62 ⟨Nat.le_of_ble_eq_true rfl, Nat.le_of_ble_eq_true rfl⟩) hw hA (fun p115 H locs hp115 hw => ?_) | (refine px_callv (pr := []) (px_runV (As := [.int 3, .int z1]) (rest := []) S (c_mp_bad l D cs h r g tf ta pf na ma wa ca ef ea xf xa cf 3 z1  (show 1 ≤ (3 : Int) from by first | exact oz_00a6fa0b0d | omega) (show 0 ≤ z1.toInt from by first | exact rz1.1 | omega) (show z1.toInt < (tf 6).toInt from by first | exact oz_7fe81129bf rz1.2 | omega) htk hwr _) hT (pr := []) (pcs := [wdP cs h r g tf ta pf na ma wa cf ca ef ea xf xa]) hw px_X.tt (px_recv hT hw 0 0 rfl rfl rfl) m12_173 m12_170 m12_172 ms_11_12 m1_21 q_Mpg_bad ⟨Nat.le_of_ble_eq_true rfl, Nat.le_of_ble_eq_true rfl⟩ hl.1 rfl (Nat.le_of_ble_eq_true rfl) d_Mpg_checkIndex_62 ⟨Nat.le_of_ble_eq_true rfl, Nat.le_of_ble_eq_true rfl⟩) hw hA (fun p115 H locs hp115 hw => ?_))
            obtain ⟨cf114, rfl, e117, e118, e119, e120, e121, e122, e123, e124, e125, e126, e127, e128, e129, e130, e131, e132, e133, e134, e135, e136⟩ := hp115
            have e117 : KpE cf cf114 := e117
            have hke := (hke).tr e117
            have hkz_e117 := e117.2
            have e118 : WrV cf114 (tf 6).toInt := e118
            have hwr := e118
            have hw0_e118 := hwr.1
            have e119 : 1 ≤ (cf114 30).toInt := e119
            have e120 : (cf114 33).toInt = (cf 33).toInt := e120
            have e121 : (cf114 38).toInt = (cf 38).toInt := e121
            have e122 : (cf114 48).toInt = (cf 48).toInt := e122
            have e123 : (cf114 46).toInt = (cf 46).toInt := e123
            have e124 : (cf114 47).toInt = (cf 47).toInt := e124
            have e125 : (cf114 57).toInt = (cf 57).toInt := e125
            have e126 : (cf114 37).toInt = (cf 37).toInt := e126
            have e127 : (cf114 42).toInt = (cf 42).toInt := e127
            have e128 : (cf114 43).toInt = (cf 43).toInt := e128
            have e129 : (cf114 44).toInt = (cf 44).toInt := e129
            have e130 : (cf114 45).toInt = (cf 45).toInt := e130
            have e131 : (cf114 54).toInt = (cf 54).toInt := e131
            have e132 : (cf114 55).toInt = (cf 55).toInt := e132
            have e133 : (cf114 58).toInt = (cf 58).toInt := e133
            have e134 : (cf114 59).toInt = (cf 59).toInt := e134
            have e135 : (cf114 41).toInt = (cf 41).toInt := e135
            have e136 : R_mp_bad (3 : Int32) z1 cf cf114 := e136
            refine lv_goto (tgt := 80) S.x S.b d_Mpg_checkIndex_65 (by decide) ?_
            first | exact px_vret S hr hlk hAe hw (Nat.le_of_ble_eq_true rfl) (Nat.le_of_ble_eq_true rfl) (⟨ma, cf114, rfl, (show KpE cf cf114 from hke), (show WrV cf114 (tf 6).toInt from hwr), (show (cf114 33).toInt = (cf 33).toInt from e120), (show (cf114 38).toInt = (cf 38).toInt from e121), (show (cf114 48).toInt = (cf 48).toInt from e122), (show (cf114 46).toInt = (cf 46).toInt from e123), (show (cf114 47).toInt = (cf 47).toInt from e124), (show (cf114 57).toInt = (cf 57).toInt from e125), (show Ann na ma0 ma from han), (show FrC lo hi ma ma from hfc), (show ZSA cf114 ca ns ys ma p0 from (zr_no (by omega))), (show R_mp_checkIndex tf ta na ca p0 ma cf ma cf114 from (Or.inl ⟨z1, ez1, v3, e8, Or.inr ⟨nc9, v72, e74, Or.inl ⟨nc75, Or.inr ⟨nc77, z103, ez103, Or.inr ⟨nc104, z108, ez108, Or.inr ⟨nc109, cf114, e136, rfl, rfl⟩⟩⟩⟩⟩⟩))⟩) d_Mpg_checkIndex_80 | (exact px_vret S hr hlk hAe hw (Nat.le_of_ble_eq_true rfl) (Nat.le_of_ble_eq_true rfl) (⟨ma, cf114, rfl, (show KpE cf cf114 from hke), (show WrV cf114 (tf 6).toInt from hwr), (show (cf114 33).toInt = (cf 33).toInt from by first | exact e120 | omega), (show (cf114 38).toInt = (cf 38).toInt from by first | exact e121 | omega), (show (cf114 48).toInt = (cf 48).toInt from by first | exact e122 | omega), (show (cf114 46).toInt = (cf 46).toInt from by first | exact e123 | omega), (show (cf114 47).toInt = (cf 47).toInt from by first | exact e124 | omega), (show (cf114 57).toInt = (cf 57).toInt from by first | exact e125 | omega), (show Ann na ma0 ma from han), (show FrC lo hi ma ma from hfc), (show ZSA cf114 ca ns ys ma p0 from (zr_no (by omega))), (show R_mp_checkIndex tf ta na ca p0 ma cf ma cf114 from (Or.inl ⟨z1, ez1, v3, e8, Or.inr ⟨nc9, v72, e74, Or.inl ⟨nc75, Or.inr ⟨nc77, z103, ez103, Or.inr ⟨nc104, z108, ez108, Or.inr ⟨nc109, cf114, e136, rfl, rfl⟩⟩⟩⟩⟩⟩))⟩) d_Mpg_checkIndex_80)
    · have nc75 : v72.toInt = (0 : Int) := (i_eq (x := v72) (y := 0)).mp c75
      refine lv_aload_n S.x S.b d_Mpg_checkIndex_26 rfl (lv_at hl 2 rfl) ?_
      refine lv_iconst (v := 2) S.x S.b d_Mpg_checkIndex_27 (by decide) ?_
      refine lv_iload_n S.x S.b d_Mpg_checkIndex_28 rfl (lv_at hl 1 rfl) ?_
      first | refine px_callv (pr := []) (px_runV (As := [.int 2, .int z1]) (rest := []) S (c_mp_bad l D cs h r g tf ta pf na ma wa ca ef ea xf xa cf 2 z1  (show 1 ≤ (2 : Int) from oz_eaf798137c) (show 0 ≤ z1.toInt from rz1.1) (show z1.toInt < (tf 6).toInt from (oz_7fe81129bf rz1.2)) htk hwr _) hT (pr := []) (pcs := [wdP cs h r g tf ta pf na ma wa cf ca ef ea xf xa]) hw px_X.tt (px_recv hT hw 0 0 rfl rfl rfl) m12_173 m12_170 m12_172 ms_11_12 m1_21 q_Mpg_bad ⟨Nat.le_of_ble_eq_true rfl, Nat.le_of_ble_eq_true rfl⟩ hl.1 rfl (Nat.le_of_ble_eq_true rfl) d_Mpg_checkIndex_29 ⟨Nat.le_of_ble_eq_true rfl, Nat.le_of_ble_eq_true rfl⟩) hw hA (fun p139 H locs hp139 hw => ?_) | (refine px_callv (pr := []) (px_runV (As := [.int 2, .int z1]) (rest := []) S (c_mp_bad l D cs h r g tf ta pf na ma wa ca ef ea xf xa cf 2 z1  (show 1 ≤ (2 : Int) from by first | exact oz_eaf798137c | omega) (show 0 ≤ z1.toInt from by first | exact rz1.1 | omega) (show z1.toInt < (tf 6).toInt from by first | exact oz_7fe81129bf rz1.2 | omega) htk hwr _) hT (pr := []) (pcs := [wdP cs h r g tf ta pf na ma wa cf ca ef ea xf xa]) hw px_X.tt (px_recv hT hw 0 0 rfl rfl rfl) m12_173 m12_170 m12_172 ms_11_12 m1_21 q_Mpg_bad ⟨Nat.le_of_ble_eq_true rfl, Nat.le_of_ble_eq_true rfl⟩ hl.1 rfl (Nat.le_of_ble_eq_true rfl) d_Mpg_checkIndex_29 ⟨Nat.le_of_ble_eq_true rfl, Nat.le_of_ble_eq_true rfl⟩) hw hA (fun p139 H locs hp139 hw => ?_))
      obtain ⟨cf138, rfl, e141, e142, e143, e144, e145, e146, e147, e148, e149, e150, e151, e152, e153, e154, e155, e156, e157, e158, e159, e160⟩ := hp139
      have e141 : KpE cf cf138 := e141
      have hke := (hke).tr e141
      have hkz_e141 := e141.2
      have e142 : WrV cf138 (tf 6).toInt := e142
      have hwr := e142
      have hw0_e142 := hwr.1
      have e143 : 1 ≤ (cf138 30).toInt := e143
      have e144 : (cf138 33).toInt = (cf 33).toInt := e144
      have e145 : (cf138 38).toInt = (cf 38).toInt := e145
      have e146 : (cf138 48).toInt = (cf 48).toInt := e146
      have e147 : (cf138 46).toInt = (cf 46).toInt := e147
      have e148 : (cf138 47).toInt = (cf 47).toInt := e148
      have e149 : (cf138 57).toInt = (cf 57).toInt := e149
      have e150 : (cf138 37).toInt = (cf 37).toInt := e150
      have e151 : (cf138 42).toInt = (cf 42).toInt := e151
      have e152 : (cf138 43).toInt = (cf 43).toInt := e152
      have e153 : (cf138 44).toInt = (cf 44).toInt := e153
      have e154 : (cf138 45).toInt = (cf 45).toInt := e154
      have e155 : (cf138 54).toInt = (cf 54).toInt := e155
      have e156 : (cf138 55).toInt = (cf 55).toInt := e156
      have e157 : (cf138 58).toInt = (cf 58).toInt := e157
      have e158 : (cf138 59).toInt = (cf 59).toInt := e158
      have e159 : (cf138 41).toInt = (cf 41).toInt := e159
      have e160 : R_mp_bad (2 : Int32) z1 cf cf138 := e160
      refine lv_goto (tgt := 80) S.x S.b d_Mpg_checkIndex_32 (by decide) ?_
      first | exact px_vret S hr hlk hAe hw (Nat.le_of_ble_eq_true rfl) (Nat.le_of_ble_eq_true rfl) (⟨ma, cf138, rfl, (show KpE cf cf138 from hke), (show WrV cf138 (tf 6).toInt from hwr), (show (cf138 33).toInt = (cf 33).toInt from e144), (show (cf138 38).toInt = (cf 38).toInt from e145), (show (cf138 48).toInt = (cf 48).toInt from e146), (show (cf138 46).toInt = (cf 46).toInt from e147), (show (cf138 47).toInt = (cf 47).toInt from e148), (show (cf138 57).toInt = (cf 57).toInt from e149), (show Ann na ma0 ma from han), (show FrC lo hi ma ma from hfc), (show ZSA cf138 ca ns ys ma p0 from (zr_no (by omega))), (show R_mp_checkIndex tf ta na ca p0 ma cf ma cf138 from (Or.inl ⟨z1, ez1, v3, e8, Or.inr ⟨nc9, v72, e74, Or.inr ⟨nc75, cf138, e160, rfl, rfl⟩⟩⟩))⟩) d_Mpg_checkIndex_80 | (exact px_vret S hr hlk hAe hw (Nat.le_of_ble_eq_true rfl) (Nat.le_of_ble_eq_true rfl) (⟨ma, cf138, rfl, (show KpE cf cf138 from hke), (show WrV cf138 (tf 6).toInt from hwr), (show (cf138 33).toInt = (cf 33).toInt from by first | exact e144 | omega), (show (cf138 38).toInt = (cf 38).toInt from by first | exact e145 | omega), (show (cf138 48).toInt = (cf 48).toInt from by first | exact e146 | omega), (show (cf138 46).toInt = (cf 46).toInt from by first | exact e147 | omega), (show (cf138 47).toInt = (cf 47).toInt from by first | exact e148 | omega), (show (cf138 57).toInt = (cf 57).toInt from by first | exact e149 | omega), (show Ann na ma0 ma from han), (show FrC lo hi ma ma from hfc), (show ZSA cf138 ca ns ys ma p0 from (zr_no (by omega))), (show R_mp_checkIndex tf ta na ca p0 ma cf ma cf138 from (Or.inl ⟨z1, ez1, v3, e8, Or.inr ⟨nc9, v72, e74, Or.inr ⟨nc75, cf138, e160, rfl, rfl⟩⟩⟩))⟩) d_Mpg_checkIndex_80)
abbrev b_Mpg_checkPlace : ByteArray := prog_16_method_76_code
def y_Mpg_checkPlace : MethodName := ⟨"HomeSystemModel$Program", "checkPlace", "(II)V"⟩
theorem d_Mpg_checkPlace_0 : decode b_Mpg_checkPlace 0 = .ok (.iload_n 2, 1) := by decide +kernel
theorem d_Mpg_checkPlace_1 : decode b_Mpg_checkPlace 1 = .ok (.iconst 2, 1) := by decide +kernel
theorem d_Mpg_checkPlace_2 : decode b_Mpg_checkPlace 2 = .ok (.if_icmp .eq 8, 3) := by decide +kernel
theorem d_Mpg_checkPlace_5 : decode b_Mpg_checkPlace 5 = .ok (.iload_n 2, 1) := by decide +kernel
theorem d_Mpg_checkPlace_6 : decode b_Mpg_checkPlace 6 = .ok (.iconst 3, 1) := by decide +kernel
theorem d_Mpg_checkPlace_7 : decode b_Mpg_checkPlace 7 = .ok (.if_icmp .ne 13, 3) := by decide +kernel
theorem d_Mpg_checkPlace_10 : decode b_Mpg_checkPlace 10 = .ok (.aload_n 0, 1) := by decide +kernel
theorem d_Mpg_checkPlace_11 : decode b_Mpg_checkPlace 11 = .ok (.iconst 3, 1) := by decide +kernel
theorem d_Mpg_checkPlace_12 : decode b_Mpg_checkPlace 12 = .ok (.aload_n 0, 1) := by decide +kernel
theorem d_Mpg_checkPlace_13 : decode b_Mpg_checkPlace 13 = .ok (.iload_n 1, 1) := by decide +kernel
theorem d_Mpg_checkPlace_14 : decode b_Mpg_checkPlace 14 = .ok (.invokevirtual 584, 3) := by decide +kernel
theorem d_Mpg_checkPlace_17 : decode b_Mpg_checkPlace 17 = .ok (.invokevirtual 565, 3) := by decide +kernel
theorem d_Mpg_checkPlace_20 : decode b_Mpg_checkPlace 20 = .ok (.aload_n 0, 1) := by decide +kernel
theorem d_Mpg_checkPlace_21 : decode b_Mpg_checkPlace 21 = .ok (.getfield 207, 3) := by decide +kernel
theorem d_Mpg_checkPlace_24 : decode b_Mpg_checkPlace 24 = .ok (.iload_n 1, 1) := by decide +kernel
theorem d_Mpg_checkPlace_25 : decode b_Mpg_checkPlace 25 = .ok (.baload, 1) := by decide +kernel
theorem d_Mpg_checkPlace_26 : decode b_Mpg_checkPlace 26 = .ok (.iconst 4, 1) := by decide +kernel
theorem d_Mpg_checkPlace_27 : decode b_Mpg_checkPlace 27 = .ok (.if_icmp .eq 17, 3) := by decide +kernel
theorem d_Mpg_checkPlace_30 : decode b_Mpg_checkPlace 30 = .ok (.aload_n 0, 1) := by decide +kernel
theorem d_Mpg_checkPlace_31 : decode b_Mpg_checkPlace 31 = .ok (.getfield 207, 3) := by decide +kernel
theorem d_Mpg_checkPlace_34 : decode b_Mpg_checkPlace 34 = .ok (.iload_n 1, 1) := by decide +kernel
theorem d_Mpg_checkPlace_35 : decode b_Mpg_checkPlace 35 = .ok (.baload, 1) := by decide +kernel
theorem d_Mpg_checkPlace_36 : decode b_Mpg_checkPlace 36 = .ok (.iconst 2, 1) := by decide +kernel
theorem d_Mpg_checkPlace_37 : decode b_Mpg_checkPlace 37 = .ok (.if_icmp .ne 11, 3) := by decide +kernel
theorem d_Mpg_checkPlace_40 : decode b_Mpg_checkPlace 40 = .ok (.iload_n 2, 1) := by decide +kernel
theorem d_Mpg_checkPlace_41 : decode b_Mpg_checkPlace 41 = .ok (.ifCond .ne 7, 3) := by decide +kernel
theorem d_Mpg_checkPlace_44 : decode b_Mpg_checkPlace 44 = .ok (.iconst 1, 1) := by decide +kernel
theorem d_Mpg_checkPlace_45 : decode b_Mpg_checkPlace 45 = .ok (.goto 4, 3) := by decide +kernel
theorem d_Mpg_checkPlace_48 : decode b_Mpg_checkPlace 48 = .ok (.iconst 0, 1) := by decide +kernel
theorem d_Mpg_checkPlace_49 : decode b_Mpg_checkPlace 49 = .ok (.istore_n 3, 1) := by decide +kernel
theorem d_Mpg_checkPlace_50 : decode b_Mpg_checkPlace 50 = .ok (.aload_n 0, 1) := by decide +kernel
theorem d_Mpg_checkPlace_51 : decode b_Mpg_checkPlace 51 = .ok (.getfield 207, 3) := by decide +kernel
theorem d_Mpg_checkPlace_54 : decode b_Mpg_checkPlace 54 = .ok (.iload_n 1, 1) := by decide +kernel
theorem d_Mpg_checkPlace_55 : decode b_Mpg_checkPlace 55 = .ok (.baload, 1) := by decide +kernel
theorem d_Mpg_checkPlace_56 : decode b_Mpg_checkPlace 56 = .ok (.iconst 2, 1) := by decide +kernel
theorem d_Mpg_checkPlace_57 : decode b_Mpg_checkPlace 57 = .ok (.if_icmp .ne 34, 3) := by decide +kernel
theorem d_Mpg_checkPlace_60 : decode b_Mpg_checkPlace 60 = .ok (.iload_n 2, 1) := by decide +kernel
theorem d_Mpg_checkPlace_61 : decode b_Mpg_checkPlace 61 = .ok (.iconst 1, 1) := by decide +kernel
theorem d_Mpg_checkPlace_62 : decode b_Mpg_checkPlace 62 = .ok (.if_icmp .ne 29, 3) := by decide +kernel
theorem d_Mpg_checkPlace_65 : decode b_Mpg_checkPlace 65 = .ok (.aload_n 0, 1) := by decide +kernel
theorem d_Mpg_checkPlace_66 : decode b_Mpg_checkPlace 66 = .ok (.getfield 249, 3) := by decide +kernel
theorem d_Mpg_checkPlace_69 : decode b_Mpg_checkPlace 69 = .ok (.aload_n 0, 1) := by decide +kernel
theorem d_Mpg_checkPlace_70 : decode b_Mpg_checkPlace 70 = .ok (.aload_n 0, 1) := by decide +kernel
theorem d_Mpg_checkPlace_71 : decode b_Mpg_checkPlace 71 = .ok (.getfield 210, 3) := by decide +kernel
theorem d_Mpg_checkPlace_74 : decode b_Mpg_checkPlace 74 = .ok (.iload_n 1, 1) := by decide +kernel
theorem d_Mpg_checkPlace_75 : decode b_Mpg_checkPlace 75 = .ok (.iaload, 1) := by decide +kernel
theorem d_Mpg_checkPlace_76 : decode b_Mpg_checkPlace 76 = .ok (.iconst 0, 1) := by decide +kernel
theorem d_Mpg_checkPlace_77 : decode b_Mpg_checkPlace 77 = .ok (.invokevirtual 559, 3) := by decide +kernel
theorem d_Mpg_checkPlace_80 : decode b_Mpg_checkPlace 80 = .ok (.iaload, 1) := by decide +kernel
theorem d_Mpg_checkPlace_81 : decode b_Mpg_checkPlace 81 = .ok (.iconst 1, 1) := by decide +kernel
theorem d_Mpg_checkPlace_82 : decode b_Mpg_checkPlace 82 = .ok (.if_icmp .ne 7, 3) := by decide +kernel
theorem d_Mpg_checkPlace_85 : decode b_Mpg_checkPlace 85 = .ok (.iconst 1, 1) := by decide +kernel
theorem d_Mpg_checkPlace_86 : decode b_Mpg_checkPlace 86 = .ok (.goto 4, 3) := by decide +kernel
theorem d_Mpg_checkPlace_89 : decode b_Mpg_checkPlace 89 = .ok (.iconst 0, 1) := by decide +kernel
theorem d_Mpg_checkPlace_90 : decode b_Mpg_checkPlace 90 = .ok (.istore_n 3, 1) := by decide +kernel
theorem d_Mpg_checkPlace_91 : decode b_Mpg_checkPlace 91 = .ok (.iload_n 3, 1) := by decide +kernel
theorem d_Mpg_checkPlace_92 : decode b_Mpg_checkPlace 92 = .ok (.ifCond .ne 14, 3) := by decide +kernel
theorem d_Mpg_checkPlace_95 : decode b_Mpg_checkPlace 95 = .ok (.aload_n 0, 1) := by decide +kernel
theorem d_Mpg_checkPlace_96 : decode b_Mpg_checkPlace 96 = .ok (.bipush 6, 2) := by decide +kernel
theorem d_Mpg_checkPlace_98 : decode b_Mpg_checkPlace 98 = .ok (.aload_n 0, 1) := by decide +kernel
theorem d_Mpg_checkPlace_99 : decode b_Mpg_checkPlace 99 = .ok (.iload_n 1, 1) := by decide +kernel
theorem d_Mpg_checkPlace_100 : decode b_Mpg_checkPlace 100 = .ok (.invokevirtual 584, 3) := by decide +kernel
theorem d_Mpg_checkPlace_103 : decode b_Mpg_checkPlace 103 = .ok (.invokevirtual 565, 3) := by decide +kernel
theorem d_Mpg_checkPlace_106 : decode b_Mpg_checkPlace 106 = .ok (.return_, 1) := by decide +kernel
theorem q_Mpg_checkPlace : px_y y_Mpg_checkPlace 2 := by unfold px_y; decide +kernel
set_option maxHeartbeats 4000000 in
set_option maxRecDepth 100000 in
theorem c_mp_checkPlace (l : Launch) (D : va_G) (cs : Nat → ClassId) (ma0 : Nat → Nat → Int32) (ys : Int) (ns : Int) (nf : Int) (kn : Int) (d : Nat) (lo : Int) (hi : Int) (h : Nat) (r : Nat → Nat) (g : Nat → Nat → Option Nat) (tf : Nat → Int32) (ta : Nat → Nat → Int32) (pf : Nat → Int32) (na : Nat → Nat → Int32) (ma : Nat → Nat → Int32) (wa : Nat → Nat → Int32) (ca : Nat → Nat → Int32) (ef : Nat → Int32) (ea : Nat → Nat → Int32) (xf : Nat → Int32) (xa : Nat → Nat → Int32) (cf : Nat → Int32) (p0 p1 : Int32)  (g0 : 0 ≤ lo) (g1 : hi ≤ (pf 13).toInt) (g2 : (pf 13).toInt ≤ 2100) (g3 : (tf 6).toInt ≤ 2049) (g4 : (cf 33).toInt = kn) (g5 : 0 ≤ kn) (g6 : (cf 48).toInt = ns) (g7 : (cf 38).toInt = nf) (g8 : 0 ≤ nf) (g9 : 0 ≤ p1.toInt) (g10 : p1.toInt ≤ 4) (htk : TkI tf ta) (hfs : FsI (tf 6).toInt (pf 13).toInt na) (hwr : WrV cf (tf 6).toInt) (hkt : KnT (tf 6).toInt ca (cf 33).toInt) (hft : FnT (tf 6).toInt na ca (cf 38).toInt) (hks : KnS ca kn ns ys) (hec : EcV ta (tf 6).toInt na ma0 d lo hi p0) (hnj : NmJ ta ca na ma kn p0 p1.toInt) : MetV l y_Mpg_checkPlace b_Mpg_checkPlace 4 D cs 3 120 (0) (0) [.ref h, .int p0, .int p1] [wdP cs h r g tf ta pf na ma wa cf ca ef ea xf xa] (oX (fun A U H => (oP A g U H)) [wdP cs h r g tf ta pf na ma wa cf ca ef ea xf xa]) (fun ps => ∃ (cf' : Nat → Int32), (ps = [wdP cs h r g tf ta pf na ma wa cf' ca ef ea xf xa]) ∧ (KpE cf cf') ∧ (WrV cf' (tf 6).toInt) ∧ ((cf' 33).toInt = (cf 33).toInt) ∧ ((cf' 38).toInt = (cf 38).toInt) ∧ ((cf' 48).toInt = (cf 48).toInt) ∧ ((cf' 46).toInt = (cf 46).toInt) ∧ ((cf' 47).toInt = (cf 47).toInt) ∧ ((cf' 57).toInt = (cf 57).toInt) ∧ (ZPl cf' na ma p0 p1.toInt) ∧ (R_mp_checkPlace ta na ca p0 p1 cf cf')) := by
  refine px_enter (by decide) (Nat.le_of_ble_eq_true rfl) ?_
  intro p e s m below meth c A ls hAe S hr hlk hnm hA hT hX hw hl
  have hl : lv_has ls 4 [(0, .ref h), (1, .int p0), (2, .int p1)] := hl
  have lp0 := Int32.le_toInt p0
  have up0 := Int32.toInt_lt p0
  have lp1 := Int32.le_toInt p1
  have up1 := Int32.toInt_lt p1
  have cst0 : (0 : Int32).toInt = 0 := rfl
  have cst1 : (1 : Int32).toInt = 1 := rfl
  have cst2 : (2 : Int32).toInt = 2 := rfl
  have cst3 : (3 : Int32).toInt = 3 := rfl
  have cst4 : (4 : Int32).toInt = 4 := rfl
  have cst6 : (6 : Int32).toInt = 6 := rfl
  have hX : (fun A U H => (oP A g U H)) A s s.heap := by rw [hAe]; exact hX
  have hP := hX
  have hZ := hP.1
  have hF0 := hP.2.1
  have hke : KpE cf cf := KpE.rf
  have hfc : FrC lo hi ma ma := FrC.rf
  have hwr0 := hwr.1
  have hk11 := hkt.1
  have hf11 := hft.1
  have hec_p0 := hec
  have hrg := EcV.rng hec
  refine lv_iload_n S.x S.b d_Mpg_checkPlace_0 rfl (lv_at hl 2 rfl) ?_
  refine lv_iconst (v := 2) S.x S.b d_Mpg_checkPlace_1 (by decide) ?_
  refine lv_icmp_eq (tgt := 10) S.x S.b d_Mpg_checkPlace_2 (by decide) (fun c1 => ?_) (fun c1 => ?_)
  · have nc1 : p1.toInt = (2 : Int) := (i_eq (x := p1) (y := 2)).mp c1
    refine lv_aload_n S.x S.b d_Mpg_checkPlace_10 rfl (lv_at hl 0 rfl) ?_
    refine lv_iconst (v := 3) S.x S.b d_Mpg_checkPlace_11 (by decide) ?_
    refine lv_aload_n S.x S.b d_Mpg_checkPlace_12 rfl (lv_at hl 0 rfl) ?_
    refine lv_iload_n S.x S.b d_Mpg_checkPlace_13 rfl (lv_at hl 1 rfl) ?_
    first | refine px_calli (pr := []) (px_runV (As := [.int p0]) (rest := [.int 3, .ref h]) S (c_mp_first l D cs h r g tf ta pf na ma wa cf ca ef ea xf xa p0  (show 0 ≤ p0.toInt from hrg.2.2) (show p0.toInt < (pf 13).toInt from (oz_7319c2f99d g1 hrg.2.1)) (show (pf 13).toInt ≤ 2100 from g2) htk (FsI.le (N' := (pf 13).toInt) hfs (by omega)) _) hT (pr := []) (pcs := [wdP cs h r g tf ta pf na ma wa cf ca ef ea xf xa]) hw px_X.tt (px_recv hT hw 0 0 rfl rfl rfl) m13_9 m13_6 m13_8 ms_12_15 m1_21 q_Mpg_first ⟨Nat.le_of_ble_eq_true rfl, Nat.le_of_ble_eq_true rfl⟩ hl.1 rfl (Nat.le_of_ble_eq_true rfl) d_Mpg_checkPlace_14 ⟨Nat.le_of_ble_eq_true rfl, Nat.le_of_ble_eq_true rfl⟩) hw hA (fun v4 p3 H locs hp3 hw => ?_) | (refine px_calli (pr := []) (px_runV (As := [.int p0]) (rest := [.int 3, .ref h]) S (c_mp_first l D cs h r g tf ta pf na ma wa cf ca ef ea xf xa p0  (show 0 ≤ p0.toInt from by first | exact hrg.2.2 | omega) (show p0.toInt < (pf 13).toInt from by first | exact oz_7319c2f99d g1 hrg.2.1 | omega) (show (pf 13).toInt ≤ 2100 from by first | exact g2 | omega) htk (FsI.le (N' := (pf 13).toInt) hfs (by omega)) _) hT (pr := []) (pcs := [wdP cs h r g tf ta pf na ma wa cf ca ef ea xf xa]) hw px_X.tt (px_recv hT hw 0 0 rfl rfl rfl) m13_9 m13_6 m13_8 ms_12_15 m1_21 q_Mpg_first ⟨Nat.le_of_ble_eq_true rfl, Nat.le_of_ble_eq_true rfl⟩ hl.1 rfl (Nat.le_of_ble_eq_true rfl) d_Mpg_checkPlace_14 ⟨Nat.le_of_ble_eq_true rfl, Nat.le_of_ble_eq_true rfl⟩) hw hA (fun v4 p3 H locs hp3 hw => ?_))
    obtain ⟨rfl, e5, e6, e7⟩ := hp3
    have e5 : 0 ≤ v4.toInt := e5
    have e6 : v4.toInt < (tf 6).toInt := e6
    have e7 : R_mp_first na p0 v4 := e7
    have lv4 := Int32.le_toInt v4
    have uv4 := Int32.toInt_lt v4
    first | refine px_callv (pr := []) (px_runV (As := [.int 3, .int v4]) (rest := []) S (c_mp_bad l D cs h r g tf ta pf na ma wa ca ef ea xf xa cf 3 v4  (show 1 ≤ (3 : Int) from oz_00a6fa0b0d) (show 0 ≤ v4.toInt from e5) (show v4.toInt < (tf 6).toInt from e6) htk hwr _) hT (pr := []) (pcs := [wdP cs h r g tf ta pf na ma wa cf ca ef ea xf xa]) hw px_X.tt (px_recv hT hw 0 0 rfl rfl rfl) m12_173 m12_170 m12_172 ms_11_12 m1_21 q_Mpg_bad ⟨Nat.le_of_ble_eq_true rfl, Nat.le_of_ble_eq_true rfl⟩ hl.1 rfl (Nat.le_of_ble_eq_true rfl) d_Mpg_checkPlace_17 ⟨Nat.le_of_ble_eq_true rfl, Nat.le_of_ble_eq_true rfl⟩) hw hA (fun p10 H locs hp10 hw => ?_) | (refine px_callv (pr := []) (px_runV (As := [.int 3, .int v4]) (rest := []) S (c_mp_bad l D cs h r g tf ta pf na ma wa ca ef ea xf xa cf 3 v4  (show 1 ≤ (3 : Int) from by first | exact oz_00a6fa0b0d | omega) (show 0 ≤ v4.toInt from by first | exact e5 | omega) (show v4.toInt < (tf 6).toInt from by first | exact e6 | omega) htk hwr _) hT (pr := []) (pcs := [wdP cs h r g tf ta pf na ma wa cf ca ef ea xf xa]) hw px_X.tt (px_recv hT hw 0 0 rfl rfl rfl) m12_173 m12_170 m12_172 ms_11_12 m1_21 q_Mpg_bad ⟨Nat.le_of_ble_eq_true rfl, Nat.le_of_ble_eq_true rfl⟩ hl.1 rfl (Nat.le_of_ble_eq_true rfl) d_Mpg_checkPlace_17 ⟨Nat.le_of_ble_eq_true rfl, Nat.le_of_ble_eq_true rfl⟩) hw hA (fun p10 H locs hp10 hw => ?_))
    obtain ⟨cf9, rfl, e12, e13, e14, e15, e16, e17, e18, e19, e20, e21, e22, e23, e24, e25, e26, e27, e28, e29, e30, e31⟩ := hp10
    have e12 : KpE cf cf9 := e12
    have hke := (hke).tr e12
    have hkz_e12 := e12.2
    have e13 : WrV cf9 (tf 6).toInt := e13
    have hwr := e13
    have hw0_e13 := hwr.1
    have e14 : 1 ≤ (cf9 30).toInt := e14
    have e15 : (cf9 33).toInt = (cf 33).toInt := e15
    have e16 : (cf9 38).toInt = (cf 38).toInt := e16
    have e17 : (cf9 48).toInt = (cf 48).toInt := e17
    have e18 : (cf9 46).toInt = (cf 46).toInt := e18
    have e19 : (cf9 47).toInt = (cf 47).toInt := e19
    have e20 : (cf9 57).toInt = (cf 57).toInt := e20
    have e21 : (cf9 37).toInt = (cf 37).toInt := e21
    have e22 : (cf9 42).toInt = (cf 42).toInt := e22
    have e23 : (cf9 43).toInt = (cf 43).toInt := e23
    have e24 : (cf9 44).toInt = (cf 44).toInt := e24
    have e25 : (cf9 45).toInt = (cf 45).toInt := e25
    have e26 : (cf9 54).toInt = (cf 54).toInt := e26
    have e27 : (cf9 55).toInt = (cf 55).toInt := e27
    have e28 : (cf9 58).toInt = (cf 58).toInt := e28
    have e29 : (cf9 59).toInt = (cf 59).toInt := e29
    have e30 : (cf9 41).toInt = (cf 41).toInt := e30
    have e31 : R_mp_bad (3 : Int32) v4 cf cf9 := e31
    refine lv_aload_n S.x S.b d_Mpg_checkPlace_20 rfl (lv_at hl 0 rfl) ?_
    refine gP_14 S hT hw 0 rfl m9_238 d_Mpg_checkPlace_21 ?_
    refine lv_iload_n S.x S.b d_Mpg_checkPlace_24 rfl (lv_at hl 1 rfl) ?_
    refine px_bald S hT hw 0 10 (n := 2100) (f := (na 14)) rfl gp_14 (x := p0) (vp_in_iff.mpr (by first | exact oz_a7e05de1cd hrg.2.2 hrg.2.1 g1 g2 | (constructor <;> omega))) d_Mpg_checkPlace_25 ?_
    refine lv_topi (fun z32 ez32 => ?_)
    have lz32 := Int32.le_toInt z32
    have uz32 := Int32.toInt_lt z32
    have rz32 := EcV.kd hec_p0 ez32
    refine lv_iconst (v := 4) S.x S.b d_Mpg_checkPlace_26 (by decide) ?_
    refine lv_icmp_eq (tgt := 44) S.x S.b d_Mpg_checkPlace_27 (by decide) (fun c33 => ?_) (fun c33 => ?_)
    · have nc33 : z32.toInt = (4 : Int) := (i_eq (x := z32) (y := 4)).mp c33
      refine lv_iconst (v := 1) S.x S.b d_Mpg_checkPlace_44 (by decide) ?_
      refine lv_goto (tgt := 49) S.x S.b d_Mpg_checkPlace_45 (by decide) ?_
      refine lv_istore_n (lv' := [(3, .int 1), (0, .ref h), (1, .int p0), (2, .int p1)]) S.x S.b d_Mpg_checkPlace_49 rfl hl (by decide) rfl (fun ls hl => ?_)
      refine lv_aload_n S.x S.b d_Mpg_checkPlace_50 rfl (lv_at hl 1 rfl) ?_
      refine gP_14 S hT hw 0 rfl m9_238 d_Mpg_checkPlace_51 ?_
      refine lv_iload_n S.x S.b d_Mpg_checkPlace_54 rfl (lv_at hl 2 rfl) ?_
      refine px_bald S hT hw 0 10 (n := 2100) (f := (na 14)) rfl gp_14 (x := p0) (vp_in_iff.mpr (by first | exact oz_a7e05de1cd hrg.2.2 hrg.2.1 g1 g2 | (constructor <;> omega))) d_Mpg_checkPlace_55 ?_
      refine lv_topi (fun z35 ez35 => ?_)
      have lz35 := Int32.le_toInt z35
      have uz35 := Int32.toInt_lt z35
      have rz35 := EcV.kd hec_p0 ez35
      refine lv_iconst (v := 2) S.x S.b d_Mpg_checkPlace_56 (by decide) ?_
      refine lv_icmp_ne (tgt := 91) S.x S.b d_Mpg_checkPlace_57 (by decide) (fun c36 => ?_) (fun c36 => ?_)
      · have nc36 : ¬ z35.toInt = (2 : Int) := mt (i_eq (x := z35) (y := 2)).mpr c36
        refine lv_iload_n S.x S.b d_Mpg_checkPlace_91 rfl (lv_at hl 0 rfl) ?_
        refine lv_if_ne (tgt := 106) S.x S.b d_Mpg_checkPlace_92 (by decide) (fun c38 => ?_) (fun c38 => ?_)
        ·
          first | exact px_vret S hr hlk hAe hw (Nat.le_of_ble_eq_true rfl) (Nat.le_of_ble_eq_true rfl) (⟨cf9, rfl, (show KpE cf cf9 from hke), (show WrV cf9 (tf 6).toInt from hwr), (show (cf9 33).toInt = (cf 33).toInt from e15), (show (cf9 38).toInt = (cf 38).toInt from e16), (show (cf9 48).toInt = (cf 48).toInt from e17), (show (cf9 46).toInt = (cf 46).toInt from e18), (show (cf9 47).toInt = (cf 47).toInt from e19), (show (cf9 57).toInt = (cf 57).toInt from e20), (show ZPl cf9 na ma p0 p1.toInt from (zr_no (by omega))), (show R_mp_checkPlace ta na ca p0 p1 cf cf9 from (Or.inl (Or.inl ⟨nc1, v4, e7, cf9, e31, z32, ez32, Or.inl ⟨nc33, z35, ez35, Or.inl ⟨nc36, rfl⟩⟩⟩)))⟩) d_Mpg_checkPlace_106 | (exact px_vret S hr hlk hAe hw (Nat.le_of_ble_eq_true rfl) (Nat.le_of_ble_eq_true rfl) (⟨cf9, rfl, (show KpE cf cf9 from hke), (show WrV cf9 (tf 6).toInt from hwr), (show (cf9 33).toInt = (cf 33).toInt from by first | exact e15 | omega), (show (cf9 38).toInt = (cf 38).toInt from by first | exact e16 | omega), (show (cf9 48).toInt = (cf 48).toInt from by first | exact e17 | omega), (show (cf9 46).toInt = (cf 46).toInt from by first | exact e18 | omega), (show (cf9 47).toInt = (cf 47).toInt from by first | exact e19 | omega), (show (cf9 57).toInt = (cf 57).toInt from by first | exact e20 | omega), (show ZPl cf9 na ma p0 p1.toInt from (zr_no (by omega))), (show R_mp_checkPlace ta na ca p0 p1 cf cf9 from (Or.inl (Or.inl ⟨nc1, v4, e7, cf9, e31, z32, ez32, Or.inl ⟨nc33, z35, ez35, Or.inl ⟨nc36, rfl⟩⟩⟩)))⟩) d_Mpg_checkPlace_106)
        · exact absurd c38 (by decide)
      · have nc36 : z35.toInt = (2 : Int) := (i_eq (x := z35) (y := 2)).mp c36
        refine lv_iload_n S.x S.b d_Mpg_checkPlace_60 rfl (lv_at hl 3 rfl) ?_
        refine lv_iconst (v := 1) S.x S.b d_Mpg_checkPlace_61 (by decide) ?_
        refine lv_icmp_ne (tgt := 91) S.x S.b d_Mpg_checkPlace_62 (by decide) (fun c39 => ?_) (fun c39 => ?_)
        · have nc39 : ¬ p1.toInt = (1 : Int) := mt (i_eq (x := p1) (y := 1)).mpr c39
          refine lv_iload_n S.x S.b d_Mpg_checkPlace_91 rfl (lv_at hl 0 rfl) ?_
          refine lv_if_ne (tgt := 106) S.x S.b d_Mpg_checkPlace_92 (by decide) (fun c41 => ?_) (fun c41 => ?_)
          ·
            first | exact px_vret S hr hlk hAe hw (Nat.le_of_ble_eq_true rfl) (Nat.le_of_ble_eq_true rfl) (⟨cf9, rfl, (show KpE cf cf9 from hke), (show WrV cf9 (tf 6).toInt from hwr), (show (cf9 33).toInt = (cf 33).toInt from e15), (show (cf9 38).toInt = (cf 38).toInt from e16), (show (cf9 48).toInt = (cf 48).toInt from e17), (show (cf9 46).toInt = (cf 46).toInt from e18), (show (cf9 47).toInt = (cf 47).toInt from e19), (show (cf9 57).toInt = (cf 57).toInt from e20), (show ZPl cf9 na ma p0 p1.toInt from (zr_no (by omega))), (show R_mp_checkPlace ta na ca p0 p1 cf cf9 from (Or.inl (Or.inl ⟨nc1, v4, e7, cf9, e31, z32, ez32, Or.inl ⟨nc33, z35, ez35, Or.inr ⟨nc36, Or.inl ⟨nc39, rfl⟩⟩⟩⟩)))⟩) d_Mpg_checkPlace_106 | (exact px_vret S hr hlk hAe hw (Nat.le_of_ble_eq_true rfl) (Nat.le_of_ble_eq_true rfl) (⟨cf9, rfl, (show KpE cf cf9 from hke), (show WrV cf9 (tf 6).toInt from hwr), (show (cf9 33).toInt = (cf 33).toInt from by first | exact e15 | omega), (show (cf9 38).toInt = (cf 38).toInt from by first | exact e16 | omega), (show (cf9 48).toInt = (cf 48).toInt from by first | exact e17 | omega), (show (cf9 46).toInt = (cf 46).toInt from by first | exact e18 | omega), (show (cf9 47).toInt = (cf 47).toInt from by first | exact e19 | omega), (show (cf9 57).toInt = (cf 57).toInt from by first | exact e20 | omega), (show ZPl cf9 na ma p0 p1.toInt from (zr_no (by omega))), (show R_mp_checkPlace ta na ca p0 p1 cf cf9 from (Or.inl (Or.inl ⟨nc1, v4, e7, cf9, e31, z32, ez32, Or.inl ⟨nc33, z35, ez35, Or.inr ⟨nc36, Or.inl ⟨nc39, rfl⟩⟩⟩⟩)))⟩) d_Mpg_checkPlace_106)
          · exact absurd c41 (by decide)
        · have nc39 : p1.toInt = (1 : Int) := (i_eq (x := p1) (y := 1)).mp c39
          refine lv_aload_n S.x S.b d_Mpg_checkPlace_65 rfl (lv_at hl 1 rfl) ?_
          refine gP_35 S hT hw 0 rfl m10_24 d_Mpg_checkPlace_66 ?_
          refine lv_aload_n S.x S.b d_Mpg_checkPlace_69 rfl (lv_at hl 1 rfl) ?_
          refine lv_aload_n S.x S.b d_Mpg_checkPlace_70 rfl (lv_at hl 1 rfl) ?_
          refine gP_15 S hT hw 0 rfl m9_239 d_Mpg_checkPlace_71 ?_
          refine lv_iload_n S.x S.b d_Mpg_checkPlace_74 rfl (lv_at hl 2 rfl) ?_
          refine px_iald S hT hw 0 11 (n := 2100) (f := (na 15)) rfl gp_15 (x := p0) (vp_in_iff.mpr (by first | exact oz_a7e05de1cd hrg.2.2 hrg.2.1 g1 g2 | (constructor <;> omega))) d_Mpg_checkPlace_75 ?_
          refine lv_topi (fun z42 ez42 => ?_)
          have lz42 := Int32.le_toInt z42
          have uz42 := Int32.toInt_lt z42
          have rz42 := EcV.tok hec_p0 ez42
          refine lv_iconst (v := 0) S.x S.b d_Mpg_checkPlace_76 (by decide) ?_
          first | refine px_calli (pr := []) (px_runV (As := [.int z42, .int 0]) (rest := [.ref (r 35)]) S (c_mp_find l D cs h r g tf ta pf na ma wa cf9 ca ef ea xf xa z42 0  (show 0 ≤ z42.toInt from rz42.1) (show z42.toInt < (tf 6).toInt from (oz_7fe81129bf rz42.2)) (show (tf 6).toInt ≤ 2049 from g3) (show 0 ≤ (0 : Int) from oz_5a341f00aa) (show 0 ≤ (cf9 33).toInt from (oz_e2fef14871 e15 g4 g5)) htk (KnT.eq hkt (by omega)) _) hT (pr := []) (pcs := [wdP cs h r g tf ta pf na ma wa cf9 ca ef ea xf xa]) hw px_X.tt (px_recv hT hw 0 0 rfl rfl rfl) m12_181 m12_178 m12_180 ms_11_14 m1_21 q_Mpg_find ⟨Nat.le_of_ble_eq_true rfl, Nat.le_of_ble_eq_true rfl⟩ hl.1 rfl (Nat.le_of_ble_eq_true rfl) d_Mpg_checkPlace_77 ⟨Nat.le_of_ble_eq_true rfl, Nat.le_of_ble_eq_true rfl⟩) hw hA (fun v44 p43 H locs hp43 hw => ?_) | (refine px_calli (pr := []) (px_runV (As := [.int z42, .int 0]) (rest := [.ref (r 35)]) S (c_mp_find l D cs h r g tf ta pf na ma wa cf9 ca ef ea xf xa z42 0  (show 0 ≤ z42.toInt from by first | exact rz42.1 | omega) (show z42.toInt < (tf 6).toInt from by first | exact oz_7fe81129bf rz42.2 | omega) (show (tf 6).toInt ≤ 2049 from by first | exact g3 | omega) (show 0 ≤ (0 : Int) from by first | exact oz_5a341f00aa | omega) (show 0 ≤ (cf9 33).toInt from by first | exact oz_e2fef14871 e15 g4 g5 | omega) htk (KnT.eq hkt (by omega)) _) hT (pr := []) (pcs := [wdP cs h r g tf ta pf na ma wa cf9 ca ef ea xf xa]) hw px_X.tt (px_recv hT hw 0 0 rfl rfl rfl) m12_181 m12_178 m12_180 ms_11_14 m1_21 q_Mpg_find ⟨Nat.le_of_ble_eq_true rfl, Nat.le_of_ble_eq_true rfl⟩ hl.1 rfl (Nat.le_of_ble_eq_true rfl) d_Mpg_checkPlace_77 ⟨Nat.le_of_ble_eq_true rfl, Nat.le_of_ble_eq_true rfl⟩) hw hA (fun v44 p43 H locs hp43 hw => ?_))
          obtain ⟨rfl, e45, e46, e47, e48, e49⟩ := hp43
          have e45 : -1 ≤ v44.toInt := e45
          have e46 : v44.toInt < (cf9 33).toInt := e46
          have e47 : 0 ≤ v44.toInt → (0 : Int) ≤ v44.toInt := e47
          have e48 : FndV ta ca (cf9 33).toInt z42 (0 : Int) v44.toInt := e48
          have hfd := e48
          have e49 : R_mp_find ta cf9 ca z42 (0 : Int32) v44 := e49
          have lv44 := Int32.le_toInt v44
          have uv44 := Int32.toInt_lt v44
          have hps := nm_pos (hnj (by omega)) (by omega) hfd ez42 (by omega)
          refine px_iald S hT hw 0 24 (n := 1100) (f := (ca 35)) rfl gp_35 (x := v44) (vp_in_iff.mpr (by constructor <;> omega)) d_Mpg_checkPlace_80 ?_
          refine lv_topi (fun z50 ez50 => ?_)
          have lz50 := Int32.le_toInt z50
          have uz50 := Int32.toInt_lt z50
          refine lv_iconst (v := 1) S.x S.b d_Mpg_checkPlace_81 (by decide) ?_
          refine lv_icmp_ne (tgt := 89) S.x S.b d_Mpg_checkPlace_82 (by decide) (fun c51 => ?_) (fun c51 => ?_)
          · have nc51 : ¬ z50.toInt = (1 : Int) := mt (i_eq (x := z50) (y := 1)).mpr c51
            refine lv_iconst (v := 0) S.x S.b d_Mpg_checkPlace_89 (by decide) ?_
            refine lv_istore_n (lv' := [(3, .int 0), (0, .ref h), (1, .int p0), (2, .int p1)]) S.x S.b d_Mpg_checkPlace_90 rfl hl (by decide) rfl (fun ls hl => ?_)
            refine lv_iload_n S.x S.b d_Mpg_checkPlace_91 rfl (lv_at hl 0 rfl) ?_
            refine lv_if_ne (tgt := 106) S.x S.b d_Mpg_checkPlace_92 (by decide) (fun c53 => ?_) (fun c53 => ?_)
            · exact absurd c53 (by decide)
            ·
              refine lv_aload_n S.x S.b d_Mpg_checkPlace_95 rfl (lv_at hl 1 rfl) ?_
              refine lv_bipush (v := 6) S.x S.b d_Mpg_checkPlace_96 (by decide) ?_
              refine lv_aload_n S.x S.b d_Mpg_checkPlace_98 rfl (lv_at hl 1 rfl) ?_
              refine lv_iload_n S.x S.b d_Mpg_checkPlace_99 rfl (lv_at hl 2 rfl) ?_
              first | refine px_calli (pr := []) (px_runV (As := [.int p0]) (rest := [.int 6, .ref h]) S (c_mp_first l D cs h r g tf ta pf na ma wa cf9 ca ef ea xf xa p0  (show 0 ≤ p0.toInt from hrg.2.2) (show p0.toInt < (pf 13).toInt from (oz_7319c2f99d g1 hrg.2.1)) (show (pf 13).toInt ≤ 2100 from g2) htk (FsI.le (N' := (pf 13).toInt) hfs (by omega)) _) hT (pr := []) (pcs := [wdP cs h r g tf ta pf na ma wa cf9 ca ef ea xf xa]) hw px_X.tt (px_recv hT hw 0 0 rfl rfl rfl) m13_9 m13_6 m13_8 ms_12_15 m1_21 q_Mpg_first ⟨Nat.le_of_ble_eq_true rfl, Nat.le_of_ble_eq_true rfl⟩ hl.1 rfl (Nat.le_of_ble_eq_true rfl) d_Mpg_checkPlace_100 ⟨Nat.le_of_ble_eq_true rfl, Nat.le_of_ble_eq_true rfl⟩) hw hA (fun v55 p54 H locs hp54 hw => ?_) | (refine px_calli (pr := []) (px_runV (As := [.int p0]) (rest := [.int 6, .ref h]) S (c_mp_first l D cs h r g tf ta pf na ma wa cf9 ca ef ea xf xa p0  (show 0 ≤ p0.toInt from by first | exact hrg.2.2 | omega) (show p0.toInt < (pf 13).toInt from by first | exact oz_7319c2f99d g1 hrg.2.1 | omega) (show (pf 13).toInt ≤ 2100 from by first | exact g2 | omega) htk (FsI.le (N' := (pf 13).toInt) hfs (by omega)) _) hT (pr := []) (pcs := [wdP cs h r g tf ta pf na ma wa cf9 ca ef ea xf xa]) hw px_X.tt (px_recv hT hw 0 0 rfl rfl rfl) m13_9 m13_6 m13_8 ms_12_15 m1_21 q_Mpg_first ⟨Nat.le_of_ble_eq_true rfl, Nat.le_of_ble_eq_true rfl⟩ hl.1 rfl (Nat.le_of_ble_eq_true rfl) d_Mpg_checkPlace_100 ⟨Nat.le_of_ble_eq_true rfl, Nat.le_of_ble_eq_true rfl⟩) hw hA (fun v55 p54 H locs hp54 hw => ?_))
              obtain ⟨rfl, e56, e57, e58⟩ := hp54
              have e56 : 0 ≤ v55.toInt := e56
              have e57 : v55.toInt < (tf 6).toInt := e57
              have e58 : R_mp_first na p0 v55 := e58
              have lv55 := Int32.le_toInt v55
              have uv55 := Int32.toInt_lt v55
              first | refine px_callv (pr := []) (px_runV (As := [.int 6, .int v55]) (rest := []) S (c_mp_bad l D cs h r g tf ta pf na ma wa ca ef ea xf xa cf9 6 v55  (show 1 ≤ (6 : Int) from oz_2c1e0e66aa) (show 0 ≤ v55.toInt from e56) (show v55.toInt < (tf 6).toInt from e57) htk hwr _) hT (pr := []) (pcs := [wdP cs h r g tf ta pf na ma wa cf9 ca ef ea xf xa]) hw px_X.tt (px_recv hT hw 0 0 rfl rfl rfl) m12_173 m12_170 m12_172 ms_11_12 m1_21 q_Mpg_bad ⟨Nat.le_of_ble_eq_true rfl, Nat.le_of_ble_eq_true rfl⟩ hl.1 rfl (Nat.le_of_ble_eq_true rfl) d_Mpg_checkPlace_103 ⟨Nat.le_of_ble_eq_true rfl, Nat.le_of_ble_eq_true rfl⟩) hw hA (fun p61 H locs hp61 hw => ?_) | (refine px_callv (pr := []) (px_runV (As := [.int 6, .int v55]) (rest := []) S (c_mp_bad l D cs h r g tf ta pf na ma wa ca ef ea xf xa cf9 6 v55  (show 1 ≤ (6 : Int) from by first | exact oz_2c1e0e66aa | omega) (show 0 ≤ v55.toInt from by first | exact e56 | omega) (show v55.toInt < (tf 6).toInt from by first | exact e57 | omega) htk hwr _) hT (pr := []) (pcs := [wdP cs h r g tf ta pf na ma wa cf9 ca ef ea xf xa]) hw px_X.tt (px_recv hT hw 0 0 rfl rfl rfl) m12_173 m12_170 m12_172 ms_11_12 m1_21 q_Mpg_bad ⟨Nat.le_of_ble_eq_true rfl, Nat.le_of_ble_eq_true rfl⟩ hl.1 rfl (Nat.le_of_ble_eq_true rfl) d_Mpg_checkPlace_103 ⟨Nat.le_of_ble_eq_true rfl, Nat.le_of_ble_eq_true rfl⟩) hw hA (fun p61 H locs hp61 hw => ?_))
              obtain ⟨cf60, rfl, e63, e64, e65, e66, e67, e68, e69, e70, e71, e72, e73, e74, e75, e76, e77, e78, e79, e80, e81, e82⟩ := hp61
              have e63 : KpE cf9 cf60 := e63
              have hke := (hke).tr e63
              have hkz_e63 := e63.2
              have e64 : WrV cf60 (tf 6).toInt := e64
              have hwr := e64
              have hw0_e64 := hwr.1
              have e65 : 1 ≤ (cf60 30).toInt := e65
              have e66 : (cf60 33).toInt = (cf9 33).toInt := e66
              have e67 : (cf60 38).toInt = (cf9 38).toInt := e67
              have e68 : (cf60 48).toInt = (cf9 48).toInt := e68
              have e69 : (cf60 46).toInt = (cf9 46).toInt := e69
              have e70 : (cf60 47).toInt = (cf9 47).toInt := e70
              have e71 : (cf60 57).toInt = (cf9 57).toInt := e71
              have e72 : (cf60 37).toInt = (cf9 37).toInt := e72
              have e73 : (cf60 42).toInt = (cf9 42).toInt := e73
              have e74 : (cf60 43).toInt = (cf9 43).toInt := e74
              have e75 : (cf60 44).toInt = (cf9 44).toInt := e75
              have e76 : (cf60 45).toInt = (cf9 45).toInt := e76
              have e77 : (cf60 54).toInt = (cf9 54).toInt := e77
              have e78 : (cf60 55).toInt = (cf9 55).toInt := e78
              have e79 : (cf60 58).toInt = (cf9 58).toInt := e79
              have e80 : (cf60 59).toInt = (cf9 59).toInt := e80
              have e81 : (cf60 41).toInt = (cf9 41).toInt := e81
              have e82 : R_mp_bad (6 : Int32) v55 cf9 cf60 := e82
              first | exact px_vret S hr hlk hAe hw (Nat.le_of_ble_eq_true rfl) (Nat.le_of_ble_eq_true rfl) (⟨cf60, rfl, (show KpE cf cf60 from hke), (show WrV cf60 (tf 6).toInt from hwr), (show (cf60 33).toInt = (cf 33).toInt from (oz_1687f4cc65 e15 e66)), (show (cf60 38).toInt = (cf 38).toInt from (oz_1687f4cc65 e16 e67)), (show (cf60 48).toInt = (cf 48).toInt from (oz_1687f4cc65 e17 e68)), (show (cf60 46).toInt = (cf 46).toInt from (oz_1687f4cc65 e18 e69)), (show (cf60 47).toInt = (cf 47).toInt from (oz_1687f4cc65 e19 e70)), (show (cf60 57).toInt = (cf 57).toInt from (oz_1687f4cc65 e20 e71)), (show ZPl cf60 na ma p0 p1.toInt from (zr_no (by omega))), (show R_mp_checkPlace ta na ca p0 p1 cf cf60 from (Or.inl (Or.inl ⟨nc1, v4, e7, cf9, e31, z32, ez32, Or.inl ⟨nc33, z35, ez35, Or.inr ⟨nc36, Or.inr ⟨nc39, z42, ez42, v44, e49, z50, ez50, Or.inl ⟨nc51, v55, e58, cf60, e82, rfl⟩⟩⟩⟩⟩)))⟩) d_Mpg_checkPlace_106 | (exact px_vret S hr hlk hAe hw (Nat.le_of_ble_eq_true rfl) (Nat.le_of_ble_eq_true rfl) (⟨cf60, rfl, (show KpE cf cf60 from hke), (show WrV cf60 (tf 6).toInt from hwr), (show (cf60 33).toInt = (cf 33).toInt from by first | exact oz_1687f4cc65 e15 e66 | omega), (show (cf60 38).toInt = (cf 38).toInt from by first | exact oz_1687f4cc65 e16 e67 | omega), (show (cf60 48).toInt = (cf 48).toInt from by first | exact oz_1687f4cc65 e17 e68 | omega), (show (cf60 46).toInt = (cf 46).toInt from by first | exact oz_1687f4cc65 e18 e69 | omega), (show (cf60 47).toInt = (cf 47).toInt from by first | exact oz_1687f4cc65 e19 e70 | omega), (show (cf60 57).toInt = (cf 57).toInt from by first | exact oz_1687f4cc65 e20 e71 | omega), (show ZPl cf60 na ma p0 p1.toInt from (zr_no (by omega))), (show R_mp_checkPlace ta na ca p0 p1 cf cf60 from (Or.inl (Or.inl ⟨nc1, v4, e7, cf9, e31, z32, ez32, Or.inl ⟨nc33, z35, ez35, Or.inr ⟨nc36, Or.inr ⟨nc39, z42, ez42, v44, e49, z50, ez50, Or.inl ⟨nc51, v55, e58, cf60, e82, rfl⟩⟩⟩⟩⟩)))⟩) d_Mpg_checkPlace_106)
          · have nc51 : z50.toInt = (1 : Int) := (i_eq (x := z50) (y := 1)).mp c51
            refine lv_iconst (v := 1) S.x S.b d_Mpg_checkPlace_85 (by decide) ?_
            refine lv_goto (tgt := 90) S.x S.b d_Mpg_checkPlace_86 (by decide) ?_
            refine lv_istore_n (lv' := [(3, .int 1), (0, .ref h), (1, .int p0), (2, .int p1)]) S.x S.b d_Mpg_checkPlace_90 rfl hl (by decide) rfl (fun ls hl => ?_)
            refine lv_iload_n S.x S.b d_Mpg_checkPlace_91 rfl (lv_at hl 0 rfl) ?_
            refine lv_if_ne (tgt := 106) S.x S.b d_Mpg_checkPlace_92 (by decide) (fun c83 => ?_) (fun c83 => ?_)
            ·
              first | exact px_vret S hr hlk hAe hw (Nat.le_of_ble_eq_true rfl) (Nat.le_of_ble_eq_true rfl) (⟨cf9, rfl, (show KpE cf cf9 from hke), (show WrV cf9 (tf 6).toInt from hwr), (show (cf9 33).toInt = (cf 33).toInt from e15), (show (cf9 38).toInt = (cf 38).toInt from e16), (show (cf9 48).toInt = (cf 48).toInt from e17), (show (cf9 46).toInt = (cf 46).toInt from e18), (show (cf9 47).toInt = (cf 47).toInt from e19), (show (cf9 57).toInt = (cf 57).toInt from e20), (show ZPl cf9 na ma p0 p1.toInt from (zr_no (by omega))), (show R_mp_checkPlace ta na ca p0 p1 cf cf9 from (Or.inl (Or.inl ⟨nc1, v4, e7, cf9, e31, z32, ez32, Or.inl ⟨nc33, z35, ez35, Or.inr ⟨nc36, Or.inr ⟨nc39, z42, ez42, v44, e49, z50, ez50, Or.inr ⟨nc51, rfl⟩⟩⟩⟩⟩)))⟩) d_Mpg_checkPlace_106 | (exact px_vret S hr hlk hAe hw (Nat.le_of_ble_eq_true rfl) (Nat.le_of_ble_eq_true rfl) (⟨cf9, rfl, (show KpE cf cf9 from hke), (show WrV cf9 (tf 6).toInt from hwr), (show (cf9 33).toInt = (cf 33).toInt from by first | exact e15 | omega), (show (cf9 38).toInt = (cf 38).toInt from by first | exact e16 | omega), (show (cf9 48).toInt = (cf 48).toInt from by first | exact e17 | omega), (show (cf9 46).toInt = (cf 46).toInt from by first | exact e18 | omega), (show (cf9 47).toInt = (cf 47).toInt from by first | exact e19 | omega), (show (cf9 57).toInt = (cf 57).toInt from by first | exact e20 | omega), (show ZPl cf9 na ma p0 p1.toInt from (zr_no (by omega))), (show R_mp_checkPlace ta na ca p0 p1 cf cf9 from (Or.inl (Or.inl ⟨nc1, v4, e7, cf9, e31, z32, ez32, Or.inl ⟨nc33, z35, ez35, Or.inr ⟨nc36, Or.inr ⟨nc39, z42, ez42, v44, e49, z50, ez50, Or.inr ⟨nc51, rfl⟩⟩⟩⟩⟩)))⟩) d_Mpg_checkPlace_106)
            · exact absurd c83 (by decide)
    · have nc33 : ¬ z32.toInt = (4 : Int) := mt (i_eq (x := z32) (y := 4)).mpr c33
      refine lv_aload_n S.x S.b d_Mpg_checkPlace_30 rfl (lv_at hl 0 rfl) ?_
      refine gP_14 S hT hw 0 rfl m9_238 d_Mpg_checkPlace_31 ?_
      refine lv_iload_n S.x S.b d_Mpg_checkPlace_34 rfl (lv_at hl 1 rfl) ?_
      refine px_bald S hT hw 0 10 (n := 2100) (f := (na 14)) rfl gp_14 (x := p0) (vp_in_iff.mpr (by first | exact oz_a7e05de1cd hrg.2.2 hrg.2.1 g1 g2 | (constructor <;> omega))) d_Mpg_checkPlace_35 ?_
      refine lv_topi (fun z84 ez84 => ?_)
      have lz84 := Int32.le_toInt z84
      have uz84 := Int32.toInt_lt z84
      have rz84 := EcV.kd hec_p0 ez84
      refine lv_iconst (v := 2) S.x S.b d_Mpg_checkPlace_36 (by decide) ?_
      refine lv_icmp_ne (tgt := 48) S.x S.b d_Mpg_checkPlace_37 (by decide) (fun c85 => ?_) (fun c85 => ?_)
      · have nc85 : ¬ z84.toInt = (2 : Int) := mt (i_eq (x := z84) (y := 2)).mpr c85
        refine lv_iconst (v := 0) S.x S.b d_Mpg_checkPlace_48 (by decide) ?_
        refine lv_istore_n (lv' := [(3, .int 0), (0, .ref h), (1, .int p0), (2, .int p1)]) S.x S.b d_Mpg_checkPlace_49 rfl hl (by decide) rfl (fun ls hl => ?_)
        refine lv_aload_n S.x S.b d_Mpg_checkPlace_50 rfl (lv_at hl 1 rfl) ?_
        refine gP_14 S hT hw 0 rfl m9_238 d_Mpg_checkPlace_51 ?_
        refine lv_iload_n S.x S.b d_Mpg_checkPlace_54 rfl (lv_at hl 2 rfl) ?_
        refine px_bald S hT hw 0 10 (n := 2100) (f := (na 14)) rfl gp_14 (x := p0) (vp_in_iff.mpr (by first | exact oz_a7e05de1cd hrg.2.2 hrg.2.1 g1 g2 | (constructor <;> omega))) d_Mpg_checkPlace_55 ?_
        refine lv_topi (fun z87 ez87 => ?_)
        have lz87 := Int32.le_toInt z87
        have uz87 := Int32.toInt_lt z87
        have rz87 := EcV.kd hec_p0 ez87
        refine lv_iconst (v := 2) S.x S.b d_Mpg_checkPlace_56 (by decide) ?_
        refine lv_icmp_ne (tgt := 91) S.x S.b d_Mpg_checkPlace_57 (by decide) (fun c88 => ?_) (fun c88 => ?_)
        · have nc88 : ¬ z87.toInt = (2 : Int) := mt (i_eq (x := z87) (y := 2)).mpr c88
          refine lv_iload_n S.x S.b d_Mpg_checkPlace_91 rfl (lv_at hl 0 rfl) ?_
          refine lv_if_ne (tgt := 106) S.x S.b d_Mpg_checkPlace_92 (by decide) (fun c90 => ?_) (fun c90 => ?_)
          · exact absurd c90 (by decide)
          ·
            refine lv_aload_n S.x S.b d_Mpg_checkPlace_95 rfl (lv_at hl 1 rfl) ?_
            refine lv_bipush (v := 6) S.x S.b d_Mpg_checkPlace_96 (by decide) ?_
            refine lv_aload_n S.x S.b d_Mpg_checkPlace_98 rfl (lv_at hl 1 rfl) ?_
            refine lv_iload_n S.x S.b d_Mpg_checkPlace_99 rfl (lv_at hl 2 rfl) ?_
            first | refine px_calli (pr := []) (px_runV (As := [.int p0]) (rest := [.int 6, .ref h]) S (c_mp_first l D cs h r g tf ta pf na ma wa cf9 ca ef ea xf xa p0  (show 0 ≤ p0.toInt from hrg.2.2) (show p0.toInt < (pf 13).toInt from (oz_7319c2f99d g1 hrg.2.1)) (show (pf 13).toInt ≤ 2100 from g2) htk (FsI.le (N' := (pf 13).toInt) hfs (by omega)) _) hT (pr := []) (pcs := [wdP cs h r g tf ta pf na ma wa cf9 ca ef ea xf xa]) hw px_X.tt (px_recv hT hw 0 0 rfl rfl rfl) m13_9 m13_6 m13_8 ms_12_15 m1_21 q_Mpg_first ⟨Nat.le_of_ble_eq_true rfl, Nat.le_of_ble_eq_true rfl⟩ hl.1 rfl (Nat.le_of_ble_eq_true rfl) d_Mpg_checkPlace_100 ⟨Nat.le_of_ble_eq_true rfl, Nat.le_of_ble_eq_true rfl⟩) hw hA (fun v92 p91 H locs hp91 hw => ?_) | (refine px_calli (pr := []) (px_runV (As := [.int p0]) (rest := [.int 6, .ref h]) S (c_mp_first l D cs h r g tf ta pf na ma wa cf9 ca ef ea xf xa p0  (show 0 ≤ p0.toInt from by first | exact hrg.2.2 | omega) (show p0.toInt < (pf 13).toInt from by first | exact oz_7319c2f99d g1 hrg.2.1 | omega) (show (pf 13).toInt ≤ 2100 from by first | exact g2 | omega) htk (FsI.le (N' := (pf 13).toInt) hfs (by omega)) _) hT (pr := []) (pcs := [wdP cs h r g tf ta pf na ma wa cf9 ca ef ea xf xa]) hw px_X.tt (px_recv hT hw 0 0 rfl rfl rfl) m13_9 m13_6 m13_8 ms_12_15 m1_21 q_Mpg_first ⟨Nat.le_of_ble_eq_true rfl, Nat.le_of_ble_eq_true rfl⟩ hl.1 rfl (Nat.le_of_ble_eq_true rfl) d_Mpg_checkPlace_100 ⟨Nat.le_of_ble_eq_true rfl, Nat.le_of_ble_eq_true rfl⟩) hw hA (fun v92 p91 H locs hp91 hw => ?_))
            obtain ⟨rfl, e93, e94, e95⟩ := hp91
            have e93 : 0 ≤ v92.toInt := e93
            have e94 : v92.toInt < (tf 6).toInt := e94
            have e95 : R_mp_first na p0 v92 := e95
            have lv92 := Int32.le_toInt v92
            have uv92 := Int32.toInt_lt v92
            first | refine px_callv (pr := []) (px_runV (As := [.int 6, .int v92]) (rest := []) S (c_mp_bad l D cs h r g tf ta pf na ma wa ca ef ea xf xa cf9 6 v92  (show 1 ≤ (6 : Int) from oz_2c1e0e66aa) (show 0 ≤ v92.toInt from e93) (show v92.toInt < (tf 6).toInt from e94) htk hwr _) hT (pr := []) (pcs := [wdP cs h r g tf ta pf na ma wa cf9 ca ef ea xf xa]) hw px_X.tt (px_recv hT hw 0 0 rfl rfl rfl) m12_173 m12_170 m12_172 ms_11_12 m1_21 q_Mpg_bad ⟨Nat.le_of_ble_eq_true rfl, Nat.le_of_ble_eq_true rfl⟩ hl.1 rfl (Nat.le_of_ble_eq_true rfl) d_Mpg_checkPlace_103 ⟨Nat.le_of_ble_eq_true rfl, Nat.le_of_ble_eq_true rfl⟩) hw hA (fun p98 H locs hp98 hw => ?_) | (refine px_callv (pr := []) (px_runV (As := [.int 6, .int v92]) (rest := []) S (c_mp_bad l D cs h r g tf ta pf na ma wa ca ef ea xf xa cf9 6 v92  (show 1 ≤ (6 : Int) from by first | exact oz_2c1e0e66aa | omega) (show 0 ≤ v92.toInt from by first | exact e93 | omega) (show v92.toInt < (tf 6).toInt from by first | exact e94 | omega) htk hwr _) hT (pr := []) (pcs := [wdP cs h r g tf ta pf na ma wa cf9 ca ef ea xf xa]) hw px_X.tt (px_recv hT hw 0 0 rfl rfl rfl) m12_173 m12_170 m12_172 ms_11_12 m1_21 q_Mpg_bad ⟨Nat.le_of_ble_eq_true rfl, Nat.le_of_ble_eq_true rfl⟩ hl.1 rfl (Nat.le_of_ble_eq_true rfl) d_Mpg_checkPlace_103 ⟨Nat.le_of_ble_eq_true rfl, Nat.le_of_ble_eq_true rfl⟩) hw hA (fun p98 H locs hp98 hw => ?_))
            obtain ⟨cf97, rfl, e100, e101, e102, e103, e104, e105, e106, e107, e108, e109, e110, e111, e112, e113, e114, e115, e116, e117, e118, e119⟩ := hp98
            have e100 : KpE cf9 cf97 := e100
            have hke := (hke).tr e100
            have hkz_e100 := e100.2
            have e101 : WrV cf97 (tf 6).toInt := e101
            have hwr := e101
            have hw0_e101 := hwr.1
            have e102 : 1 ≤ (cf97 30).toInt := e102
            have e103 : (cf97 33).toInt = (cf9 33).toInt := e103
            have e104 : (cf97 38).toInt = (cf9 38).toInt := e104
            have e105 : (cf97 48).toInt = (cf9 48).toInt := e105
            have e106 : (cf97 46).toInt = (cf9 46).toInt := e106
            have e107 : (cf97 47).toInt = (cf9 47).toInt := e107
            have e108 : (cf97 57).toInt = (cf9 57).toInt := e108
            have e109 : (cf97 37).toInt = (cf9 37).toInt := e109
            have e110 : (cf97 42).toInt = (cf9 42).toInt := e110
            have e111 : (cf97 43).toInt = (cf9 43).toInt := e111
            have e112 : (cf97 44).toInt = (cf9 44).toInt := e112
            have e113 : (cf97 45).toInt = (cf9 45).toInt := e113
            have e114 : (cf97 54).toInt = (cf9 54).toInt := e114
            have e115 : (cf97 55).toInt = (cf9 55).toInt := e115
            have e116 : (cf97 58).toInt = (cf9 58).toInt := e116
            have e117 : (cf97 59).toInt = (cf9 59).toInt := e117
            have e118 : (cf97 41).toInt = (cf9 41).toInt := e118
            have e119 : R_mp_bad (6 : Int32) v92 cf9 cf97 := e119
            first | exact px_vret S hr hlk hAe hw (Nat.le_of_ble_eq_true rfl) (Nat.le_of_ble_eq_true rfl) (⟨cf97, rfl, (show KpE cf cf97 from hke), (show WrV cf97 (tf 6).toInt from hwr), (show (cf97 33).toInt = (cf 33).toInt from (oz_1687f4cc65 e15 e103)), (show (cf97 38).toInt = (cf 38).toInt from (oz_1687f4cc65 e16 e104)), (show (cf97 48).toInt = (cf 48).toInt from (oz_1687f4cc65 e17 e105)), (show (cf97 46).toInt = (cf 46).toInt from (oz_1687f4cc65 e18 e106)), (show (cf97 47).toInt = (cf 47).toInt from (oz_1687f4cc65 e19 e107)), (show (cf97 57).toInt = (cf 57).toInt from (oz_1687f4cc65 e20 e108)), (show ZPl cf97 na ma p0 p1.toInt from (zr_no (by omega))), (show R_mp_checkPlace ta na ca p0 p1 cf cf97 from (Or.inl (Or.inl ⟨nc1, v4, e7, cf9, e31, z32, ez32, Or.inr ⟨nc33, z84, ez84, Or.inl ⟨nc85, z87, ez87, Or.inl ⟨nc88, v92, e95, cf97, e119, rfl⟩⟩⟩⟩)))⟩) d_Mpg_checkPlace_106 | (exact px_vret S hr hlk hAe hw (Nat.le_of_ble_eq_true rfl) (Nat.le_of_ble_eq_true rfl) (⟨cf97, rfl, (show KpE cf cf97 from hke), (show WrV cf97 (tf 6).toInt from hwr), (show (cf97 33).toInt = (cf 33).toInt from by first | exact oz_1687f4cc65 e15 e103 | omega), (show (cf97 38).toInt = (cf 38).toInt from by first | exact oz_1687f4cc65 e16 e104 | omega), (show (cf97 48).toInt = (cf 48).toInt from by first | exact oz_1687f4cc65 e17 e105 | omega), (show (cf97 46).toInt = (cf 46).toInt from by first | exact oz_1687f4cc65 e18 e106 | omega), (show (cf97 47).toInt = (cf 47).toInt from by first | exact oz_1687f4cc65 e19 e107 | omega), (show (cf97 57).toInt = (cf 57).toInt from by first | exact oz_1687f4cc65 e20 e108 | omega), (show ZPl cf97 na ma p0 p1.toInt from (zr_no (by omega))), (show R_mp_checkPlace ta na ca p0 p1 cf cf97 from (Or.inl (Or.inl ⟨nc1, v4, e7, cf9, e31, z32, ez32, Or.inr ⟨nc33, z84, ez84, Or.inl ⟨nc85, z87, ez87, Or.inl ⟨nc88, v92, e95, cf97, e119, rfl⟩⟩⟩⟩)))⟩) d_Mpg_checkPlace_106)
        · have nc88 : z87.toInt = (2 : Int) := (i_eq (x := z87) (y := 2)).mp c88
          refine lv_iload_n S.x S.b d_Mpg_checkPlace_60 rfl (lv_at hl 3 rfl) ?_
          refine lv_iconst (v := 1) S.x S.b d_Mpg_checkPlace_61 (by decide) ?_
          refine lv_icmp_ne (tgt := 91) S.x S.b d_Mpg_checkPlace_62 (by decide) (fun c120 => ?_) (fun c120 => ?_)
          · have nc120 : ¬ p1.toInt = (1 : Int) := mt (i_eq (x := p1) (y := 1)).mpr c120
            refine lv_iload_n S.x S.b d_Mpg_checkPlace_91 rfl (lv_at hl 0 rfl) ?_
            refine lv_if_ne (tgt := 106) S.x S.b d_Mpg_checkPlace_92 (by decide) (fun c122 => ?_) (fun c122 => ?_)
            · exact absurd c122 (by decide)
            ·
              refine lv_aload_n S.x S.b d_Mpg_checkPlace_95 rfl (lv_at hl 1 rfl) ?_
              refine lv_bipush (v := 6) S.x S.b d_Mpg_checkPlace_96 (by decide) ?_
              refine lv_aload_n S.x S.b d_Mpg_checkPlace_98 rfl (lv_at hl 1 rfl) ?_
              refine lv_iload_n S.x S.b d_Mpg_checkPlace_99 rfl (lv_at hl 2 rfl) ?_
              first | refine px_calli (pr := []) (px_runV (As := [.int p0]) (rest := [.int 6, .ref h]) S (c_mp_first l D cs h r g tf ta pf na ma wa cf9 ca ef ea xf xa p0  (show 0 ≤ p0.toInt from hrg.2.2) (show p0.toInt < (pf 13).toInt from (oz_7319c2f99d g1 hrg.2.1)) (show (pf 13).toInt ≤ 2100 from g2) htk (FsI.le (N' := (pf 13).toInt) hfs (by omega)) _) hT (pr := []) (pcs := [wdP cs h r g tf ta pf na ma wa cf9 ca ef ea xf xa]) hw px_X.tt (px_recv hT hw 0 0 rfl rfl rfl) m13_9 m13_6 m13_8 ms_12_15 m1_21 q_Mpg_first ⟨Nat.le_of_ble_eq_true rfl, Nat.le_of_ble_eq_true rfl⟩ hl.1 rfl (Nat.le_of_ble_eq_true rfl) d_Mpg_checkPlace_100 ⟨Nat.le_of_ble_eq_true rfl, Nat.le_of_ble_eq_true rfl⟩) hw hA (fun v124 p123 H locs hp123 hw => ?_) | (refine px_calli (pr := []) (px_runV (As := [.int p0]) (rest := [.int 6, .ref h]) S (c_mp_first l D cs h r g tf ta pf na ma wa cf9 ca ef ea xf xa p0  (show 0 ≤ p0.toInt from by first | exact hrg.2.2 | omega) (show p0.toInt < (pf 13).toInt from by first | exact oz_7319c2f99d g1 hrg.2.1 | omega) (show (pf 13).toInt ≤ 2100 from by first | exact g2 | omega) htk (FsI.le (N' := (pf 13).toInt) hfs (by omega)) _) hT (pr := []) (pcs := [wdP cs h r g tf ta pf na ma wa cf9 ca ef ea xf xa]) hw px_X.tt (px_recv hT hw 0 0 rfl rfl rfl) m13_9 m13_6 m13_8 ms_12_15 m1_21 q_Mpg_first ⟨Nat.le_of_ble_eq_true rfl, Nat.le_of_ble_eq_true rfl⟩ hl.1 rfl (Nat.le_of_ble_eq_true rfl) d_Mpg_checkPlace_100 ⟨Nat.le_of_ble_eq_true rfl, Nat.le_of_ble_eq_true rfl⟩) hw hA (fun v124 p123 H locs hp123 hw => ?_))
              obtain ⟨rfl, e125, e126, e127⟩ := hp123
              have e125 : 0 ≤ v124.toInt := e125
              have e126 : v124.toInt < (tf 6).toInt := e126
              have e127 : R_mp_first na p0 v124 := e127
              have lv124 := Int32.le_toInt v124
              have uv124 := Int32.toInt_lt v124
              first | refine px_callv (pr := []) (px_runV (As := [.int 6, .int v124]) (rest := []) S (c_mp_bad l D cs h r g tf ta pf na ma wa ca ef ea xf xa cf9 6 v124  (show 1 ≤ (6 : Int) from oz_2c1e0e66aa) (show 0 ≤ v124.toInt from e125) (show v124.toInt < (tf 6).toInt from e126) htk hwr _) hT (pr := []) (pcs := [wdP cs h r g tf ta pf na ma wa cf9 ca ef ea xf xa]) hw px_X.tt (px_recv hT hw 0 0 rfl rfl rfl) m12_173 m12_170 m12_172 ms_11_12 m1_21 q_Mpg_bad ⟨Nat.le_of_ble_eq_true rfl, Nat.le_of_ble_eq_true rfl⟩ hl.1 rfl (Nat.le_of_ble_eq_true rfl) d_Mpg_checkPlace_103 ⟨Nat.le_of_ble_eq_true rfl, Nat.le_of_ble_eq_true rfl⟩) hw hA (fun p130 H locs hp130 hw => ?_) | (refine px_callv (pr := []) (px_runV (As := [.int 6, .int v124]) (rest := []) S (c_mp_bad l D cs h r g tf ta pf na ma wa ca ef ea xf xa cf9 6 v124  (show 1 ≤ (6 : Int) from by first | exact oz_2c1e0e66aa | omega) (show 0 ≤ v124.toInt from by first | exact e125 | omega) (show v124.toInt < (tf 6).toInt from by first | exact e126 | omega) htk hwr _) hT (pr := []) (pcs := [wdP cs h r g tf ta pf na ma wa cf9 ca ef ea xf xa]) hw px_X.tt (px_recv hT hw 0 0 rfl rfl rfl) m12_173 m12_170 m12_172 ms_11_12 m1_21 q_Mpg_bad ⟨Nat.le_of_ble_eq_true rfl, Nat.le_of_ble_eq_true rfl⟩ hl.1 rfl (Nat.le_of_ble_eq_true rfl) d_Mpg_checkPlace_103 ⟨Nat.le_of_ble_eq_true rfl, Nat.le_of_ble_eq_true rfl⟩) hw hA (fun p130 H locs hp130 hw => ?_))
              obtain ⟨cf129, rfl, e132, e133, e134, e135, e136, e137, e138, e139, e140, e141, e142, e143, e144, e145, e146, e147, e148, e149, e150, e151⟩ := hp130
              have e132 : KpE cf9 cf129 := e132
              have hke := (hke).tr e132
              have hkz_e132 := e132.2
              have e133 : WrV cf129 (tf 6).toInt := e133
              have hwr := e133
              have hw0_e133 := hwr.1
              have e134 : 1 ≤ (cf129 30).toInt := e134
              have e135 : (cf129 33).toInt = (cf9 33).toInt := e135
              have e136 : (cf129 38).toInt = (cf9 38).toInt := e136
              have e137 : (cf129 48).toInt = (cf9 48).toInt := e137
              have e138 : (cf129 46).toInt = (cf9 46).toInt := e138
              have e139 : (cf129 47).toInt = (cf9 47).toInt := e139
              have e140 : (cf129 57).toInt = (cf9 57).toInt := e140
              have e141 : (cf129 37).toInt = (cf9 37).toInt := e141
              have e142 : (cf129 42).toInt = (cf9 42).toInt := e142
              have e143 : (cf129 43).toInt = (cf9 43).toInt := e143
              have e144 : (cf129 44).toInt = (cf9 44).toInt := e144
              have e145 : (cf129 45).toInt = (cf9 45).toInt := e145
              have e146 : (cf129 54).toInt = (cf9 54).toInt := e146
              have e147 : (cf129 55).toInt = (cf9 55).toInt := e147
              have e148 : (cf129 58).toInt = (cf9 58).toInt := e148
              have e149 : (cf129 59).toInt = (cf9 59).toInt := e149
              have e150 : (cf129 41).toInt = (cf9 41).toInt := e150
              have e151 : R_mp_bad (6 : Int32) v124 cf9 cf129 := e151
              first | exact px_vret S hr hlk hAe hw (Nat.le_of_ble_eq_true rfl) (Nat.le_of_ble_eq_true rfl) (⟨cf129, rfl, (show KpE cf cf129 from hke), (show WrV cf129 (tf 6).toInt from hwr), (show (cf129 33).toInt = (cf 33).toInt from (oz_1687f4cc65 e15 e135)), (show (cf129 38).toInt = (cf 38).toInt from (oz_1687f4cc65 e16 e136)), (show (cf129 48).toInt = (cf 48).toInt from (oz_1687f4cc65 e17 e137)), (show (cf129 46).toInt = (cf 46).toInt from (oz_1687f4cc65 e18 e138)), (show (cf129 47).toInt = (cf 47).toInt from (oz_1687f4cc65 e19 e139)), (show (cf129 57).toInt = (cf 57).toInt from (oz_1687f4cc65 e20 e140)), (show ZPl cf129 na ma p0 p1.toInt from (zr_no (by omega))), (show R_mp_checkPlace ta na ca p0 p1 cf cf129 from (Or.inl (Or.inl ⟨nc1, v4, e7, cf9, e31, z32, ez32, Or.inr ⟨nc33, z84, ez84, Or.inl ⟨nc85, z87, ez87, Or.inr ⟨nc88, Or.inl ⟨nc120, v124, e127, cf129, e151, rfl⟩⟩⟩⟩⟩)))⟩) d_Mpg_checkPlace_106 | (exact px_vret S hr hlk hAe hw (Nat.le_of_ble_eq_true rfl) (Nat.le_of_ble_eq_true rfl) (⟨cf129, rfl, (show KpE cf cf129 from hke), (show WrV cf129 (tf 6).toInt from hwr), (show (cf129 33).toInt = (cf 33).toInt from by first | exact oz_1687f4cc65 e15 e135 | omega), (show (cf129 38).toInt = (cf 38).toInt from by first | exact oz_1687f4cc65 e16 e136 | omega), (show (cf129 48).toInt = (cf 48).toInt from by first | exact oz_1687f4cc65 e17 e137 | omega), (show (cf129 46).toInt = (cf 46).toInt from by first | exact oz_1687f4cc65 e18 e138 | omega), (show (cf129 47).toInt = (cf 47).toInt from by first | exact oz_1687f4cc65 e19 e139 | omega), (show (cf129 57).toInt = (cf 57).toInt from by first | exact oz_1687f4cc65 e20 e140 | omega), (show ZPl cf129 na ma p0 p1.toInt from (zr_no (by omega))), (show R_mp_checkPlace ta na ca p0 p1 cf cf129 from (Or.inl (Or.inl ⟨nc1, v4, e7, cf9, e31, z32, ez32, Or.inr ⟨nc33, z84, ez84, Or.inl ⟨nc85, z87, ez87, Or.inr ⟨nc88, Or.inl ⟨nc120, v124, e127, cf129, e151, rfl⟩⟩⟩⟩⟩)))⟩) d_Mpg_checkPlace_106)
          · have nc120 : p1.toInt = (1 : Int) := (i_eq (x := p1) (y := 1)).mp c120
            refine lv_aload_n S.x S.b d_Mpg_checkPlace_65 rfl (lv_at hl 1 rfl) ?_
            refine gP_35 S hT hw 0 rfl m10_24 d_Mpg_checkPlace_66 ?_
            refine lv_aload_n S.x S.b d_Mpg_checkPlace_69 rfl (lv_at hl 1 rfl) ?_
            refine lv_aload_n S.x S.b d_Mpg_checkPlace_70 rfl (lv_at hl 1 rfl) ?_
            refine gP_15 S hT hw 0 rfl m9_239 d_Mpg_checkPlace_71 ?_
            refine lv_iload_n S.x S.b d_Mpg_checkPlace_74 rfl (lv_at hl 2 rfl) ?_
            refine px_iald S hT hw 0 11 (n := 2100) (f := (na 15)) rfl gp_15 (x := p0) (vp_in_iff.mpr (by first | exact oz_a7e05de1cd hrg.2.2 hrg.2.1 g1 g2 | (constructor <;> omega))) d_Mpg_checkPlace_75 ?_
            refine lv_topi (fun z152 ez152 => ?_)
            have lz152 := Int32.le_toInt z152
            have uz152 := Int32.toInt_lt z152
            have rz152 := EcV.tok hec_p0 ez152
            refine lv_iconst (v := 0) S.x S.b d_Mpg_checkPlace_76 (by decide) ?_
            first | refine px_calli (pr := []) (px_runV (As := [.int z152, .int 0]) (rest := [.ref (r 35)]) S (c_mp_find l D cs h r g tf ta pf na ma wa cf9 ca ef ea xf xa z152 0  (show 0 ≤ z152.toInt from rz152.1) (show z152.toInt < (tf 6).toInt from (oz_7fe81129bf rz152.2)) (show (tf 6).toInt ≤ 2049 from g3) (show 0 ≤ (0 : Int) from oz_5a341f00aa) (show 0 ≤ (cf9 33).toInt from (oz_e2fef14871 e15 g4 g5)) htk (KnT.eq hkt (by omega)) _) hT (pr := []) (pcs := [wdP cs h r g tf ta pf na ma wa cf9 ca ef ea xf xa]) hw px_X.tt (px_recv hT hw 0 0 rfl rfl rfl) m12_181 m12_178 m12_180 ms_11_14 m1_21 q_Mpg_find ⟨Nat.le_of_ble_eq_true rfl, Nat.le_of_ble_eq_true rfl⟩ hl.1 rfl (Nat.le_of_ble_eq_true rfl) d_Mpg_checkPlace_77 ⟨Nat.le_of_ble_eq_true rfl, Nat.le_of_ble_eq_true rfl⟩) hw hA (fun v154 p153 H locs hp153 hw => ?_) | (refine px_calli (pr := []) (px_runV (As := [.int z152, .int 0]) (rest := [.ref (r 35)]) S (c_mp_find l D cs h r g tf ta pf na ma wa cf9 ca ef ea xf xa z152 0  (show 0 ≤ z152.toInt from by first | exact rz152.1 | omega) (show z152.toInt < (tf 6).toInt from by first | exact oz_7fe81129bf rz152.2 | omega) (show (tf 6).toInt ≤ 2049 from by first | exact g3 | omega) (show 0 ≤ (0 : Int) from by first | exact oz_5a341f00aa | omega) (show 0 ≤ (cf9 33).toInt from by first | exact oz_e2fef14871 e15 g4 g5 | omega) htk (KnT.eq hkt (by omega)) _) hT (pr := []) (pcs := [wdP cs h r g tf ta pf na ma wa cf9 ca ef ea xf xa]) hw px_X.tt (px_recv hT hw 0 0 rfl rfl rfl) m12_181 m12_178 m12_180 ms_11_14 m1_21 q_Mpg_find ⟨Nat.le_of_ble_eq_true rfl, Nat.le_of_ble_eq_true rfl⟩ hl.1 rfl (Nat.le_of_ble_eq_true rfl) d_Mpg_checkPlace_77 ⟨Nat.le_of_ble_eq_true rfl, Nat.le_of_ble_eq_true rfl⟩) hw hA (fun v154 p153 H locs hp153 hw => ?_))
            obtain ⟨rfl, e155, e156, e157, e158, e159⟩ := hp153
            have e155 : -1 ≤ v154.toInt := e155
            have e156 : v154.toInt < (cf9 33).toInt := e156
            have e157 : 0 ≤ v154.toInt → (0 : Int) ≤ v154.toInt := e157
            have e158 : FndV ta ca (cf9 33).toInt z152 (0 : Int) v154.toInt := e158
            have hfd := e158
            have e159 : R_mp_find ta cf9 ca z152 (0 : Int32) v154 := e159
            have lv154 := Int32.le_toInt v154
            have uv154 := Int32.toInt_lt v154
            have hps := nm_pos (hnj (by omega)) (by omega) hfd ez152 (by omega)
            refine px_iald S hT hw 0 24 (n := 1100) (f := (ca 35)) rfl gp_35 (x := v154) (vp_in_iff.mpr (by constructor <;> omega)) d_Mpg_checkPlace_80 ?_
            refine lv_topi (fun z160 ez160 => ?_)
            have lz160 := Int32.le_toInt z160
            have uz160 := Int32.toInt_lt z160
            refine lv_iconst (v := 1) S.x S.b d_Mpg_checkPlace_81 (by decide) ?_
            refine lv_icmp_ne (tgt := 89) S.x S.b d_Mpg_checkPlace_82 (by decide) (fun c161 => ?_) (fun c161 => ?_)
            · have nc161 : ¬ z160.toInt = (1 : Int) := mt (i_eq (x := z160) (y := 1)).mpr c161
              refine lv_iconst (v := 0) S.x S.b d_Mpg_checkPlace_89 (by decide) ?_
              refine lv_istore_n (lv' := [(3, .int 0), (0, .ref h), (1, .int p0), (2, .int p1)]) S.x S.b d_Mpg_checkPlace_90 rfl hl (by decide) rfl (fun ls hl => ?_)
              refine lv_iload_n S.x S.b d_Mpg_checkPlace_91 rfl (lv_at hl 0 rfl) ?_
              refine lv_if_ne (tgt := 106) S.x S.b d_Mpg_checkPlace_92 (by decide) (fun c163 => ?_) (fun c163 => ?_)
              · exact absurd c163 (by decide)
              ·
                refine lv_aload_n S.x S.b d_Mpg_checkPlace_95 rfl (lv_at hl 1 rfl) ?_
                refine lv_bipush (v := 6) S.x S.b d_Mpg_checkPlace_96 (by decide) ?_
                refine lv_aload_n S.x S.b d_Mpg_checkPlace_98 rfl (lv_at hl 1 rfl) ?_
                refine lv_iload_n S.x S.b d_Mpg_checkPlace_99 rfl (lv_at hl 2 rfl) ?_
                first | refine px_calli (pr := []) (px_runV (As := [.int p0]) (rest := [.int 6, .ref h]) S (c_mp_first l D cs h r g tf ta pf na ma wa cf9 ca ef ea xf xa p0  (show 0 ≤ p0.toInt from hrg.2.2) (show p0.toInt < (pf 13).toInt from (oz_7319c2f99d g1 hrg.2.1)) (show (pf 13).toInt ≤ 2100 from g2) htk (FsI.le (N' := (pf 13).toInt) hfs (by omega)) _) hT (pr := []) (pcs := [wdP cs h r g tf ta pf na ma wa cf9 ca ef ea xf xa]) hw px_X.tt (px_recv hT hw 0 0 rfl rfl rfl) m13_9 m13_6 m13_8 ms_12_15 m1_21 q_Mpg_first ⟨Nat.le_of_ble_eq_true rfl, Nat.le_of_ble_eq_true rfl⟩ hl.1 rfl (Nat.le_of_ble_eq_true rfl) d_Mpg_checkPlace_100 ⟨Nat.le_of_ble_eq_true rfl, Nat.le_of_ble_eq_true rfl⟩) hw hA (fun v165 p164 H locs hp164 hw => ?_) | (refine px_calli (pr := []) (px_runV (As := [.int p0]) (rest := [.int 6, .ref h]) S (c_mp_first l D cs h r g tf ta pf na ma wa cf9 ca ef ea xf xa p0  (show 0 ≤ p0.toInt from by first | exact hrg.2.2 | omega) (show p0.toInt < (pf 13).toInt from by first | exact oz_7319c2f99d g1 hrg.2.1 | omega) (show (pf 13).toInt ≤ 2100 from by first | exact g2 | omega) htk (FsI.le (N' := (pf 13).toInt) hfs (by omega)) _) hT (pr := []) (pcs := [wdP cs h r g tf ta pf na ma wa cf9 ca ef ea xf xa]) hw px_X.tt (px_recv hT hw 0 0 rfl rfl rfl) m13_9 m13_6 m13_8 ms_12_15 m1_21 q_Mpg_first ⟨Nat.le_of_ble_eq_true rfl, Nat.le_of_ble_eq_true rfl⟩ hl.1 rfl (Nat.le_of_ble_eq_true rfl) d_Mpg_checkPlace_100 ⟨Nat.le_of_ble_eq_true rfl, Nat.le_of_ble_eq_true rfl⟩) hw hA (fun v165 p164 H locs hp164 hw => ?_))
                obtain ⟨rfl, e166, e167, e168⟩ := hp164
                have e166 : 0 ≤ v165.toInt := e166
                have e167 : v165.toInt < (tf 6).toInt := e167
                have e168 : R_mp_first na p0 v165 := e168
                have lv165 := Int32.le_toInt v165
                have uv165 := Int32.toInt_lt v165
                first | refine px_callv (pr := []) (px_runV (As := [.int 6, .int v165]) (rest := []) S (c_mp_bad l D cs h r g tf ta pf na ma wa ca ef ea xf xa cf9 6 v165  (show 1 ≤ (6 : Int) from oz_2c1e0e66aa) (show 0 ≤ v165.toInt from e166) (show v165.toInt < (tf 6).toInt from e167) htk hwr _) hT (pr := []) (pcs := [wdP cs h r g tf ta pf na ma wa cf9 ca ef ea xf xa]) hw px_X.tt (px_recv hT hw 0 0 rfl rfl rfl) m12_173 m12_170 m12_172 ms_11_12 m1_21 q_Mpg_bad ⟨Nat.le_of_ble_eq_true rfl, Nat.le_of_ble_eq_true rfl⟩ hl.1 rfl (Nat.le_of_ble_eq_true rfl) d_Mpg_checkPlace_103 ⟨Nat.le_of_ble_eq_true rfl, Nat.le_of_ble_eq_true rfl⟩) hw hA (fun p171 H locs hp171 hw => ?_) | (refine px_callv (pr := []) (px_runV (As := [.int 6, .int v165]) (rest := []) S (c_mp_bad l D cs h r g tf ta pf na ma wa ca ef ea xf xa cf9 6 v165  (show 1 ≤ (6 : Int) from by first | exact oz_2c1e0e66aa | omega) (show 0 ≤ v165.toInt from by first | exact e166 | omega) (show v165.toInt < (tf 6).toInt from by first | exact e167 | omega) htk hwr _) hT (pr := []) (pcs := [wdP cs h r g tf ta pf na ma wa cf9 ca ef ea xf xa]) hw px_X.tt (px_recv hT hw 0 0 rfl rfl rfl) m12_173 m12_170 m12_172 ms_11_12 m1_21 q_Mpg_bad ⟨Nat.le_of_ble_eq_true rfl, Nat.le_of_ble_eq_true rfl⟩ hl.1 rfl (Nat.le_of_ble_eq_true rfl) d_Mpg_checkPlace_103 ⟨Nat.le_of_ble_eq_true rfl, Nat.le_of_ble_eq_true rfl⟩) hw hA (fun p171 H locs hp171 hw => ?_))
                obtain ⟨cf170, rfl, e173, e174, e175, e176, e177, e178, e179, e180, e181, e182, e183, e184, e185, e186, e187, e188, e189, e190, e191, e192⟩ := hp171
                have e173 : KpE cf9 cf170 := e173
                have hke := (hke).tr e173
                have hkz_e173 := e173.2
                have e174 : WrV cf170 (tf 6).toInt := e174
                have hwr := e174
                have hw0_e174 := hwr.1
                have e175 : 1 ≤ (cf170 30).toInt := e175
                have e176 : (cf170 33).toInt = (cf9 33).toInt := e176
                have e177 : (cf170 38).toInt = (cf9 38).toInt := e177
                have e178 : (cf170 48).toInt = (cf9 48).toInt := e178
                have e179 : (cf170 46).toInt = (cf9 46).toInt := e179
                have e180 : (cf170 47).toInt = (cf9 47).toInt := e180
                have e181 : (cf170 57).toInt = (cf9 57).toInt := e181
                have e182 : (cf170 37).toInt = (cf9 37).toInt := e182
                have e183 : (cf170 42).toInt = (cf9 42).toInt := e183
                have e184 : (cf170 43).toInt = (cf9 43).toInt := e184
                have e185 : (cf170 44).toInt = (cf9 44).toInt := e185
                have e186 : (cf170 45).toInt = (cf9 45).toInt := e186
                have e187 : (cf170 54).toInt = (cf9 54).toInt := e187
                have e188 : (cf170 55).toInt = (cf9 55).toInt := e188
                have e189 : (cf170 58).toInt = (cf9 58).toInt := e189
                have e190 : (cf170 59).toInt = (cf9 59).toInt := e190
                have e191 : (cf170 41).toInt = (cf9 41).toInt := e191
                have e192 : R_mp_bad (6 : Int32) v165 cf9 cf170 := e192
                first | exact px_vret S hr hlk hAe hw (Nat.le_of_ble_eq_true rfl) (Nat.le_of_ble_eq_true rfl) (⟨cf170, rfl, (show KpE cf cf170 from hke), (show WrV cf170 (tf 6).toInt from hwr), (show (cf170 33).toInt = (cf 33).toInt from (oz_1687f4cc65 e15 e176)), (show (cf170 38).toInt = (cf 38).toInt from (oz_1687f4cc65 e16 e177)), (show (cf170 48).toInt = (cf 48).toInt from (oz_1687f4cc65 e17 e178)), (show (cf170 46).toInt = (cf 46).toInt from (oz_1687f4cc65 e18 e179)), (show (cf170 47).toInt = (cf 47).toInt from (oz_1687f4cc65 e19 e180)), (show (cf170 57).toInt = (cf 57).toInt from (oz_1687f4cc65 e20 e181)), (show ZPl cf170 na ma p0 p1.toInt from (zr_no (by omega))), (show R_mp_checkPlace ta na ca p0 p1 cf cf170 from (Or.inl (Or.inl ⟨nc1, v4, e7, cf9, e31, z32, ez32, Or.inr ⟨nc33, z84, ez84, Or.inl ⟨nc85, z87, ez87, Or.inr ⟨nc88, Or.inr ⟨nc120, z152, ez152, v154, e159, z160, ez160, Or.inl ⟨nc161, v165, e168, cf170, e192, rfl⟩⟩⟩⟩⟩⟩)))⟩) d_Mpg_checkPlace_106 | (exact px_vret S hr hlk hAe hw (Nat.le_of_ble_eq_true rfl) (Nat.le_of_ble_eq_true rfl) (⟨cf170, rfl, (show KpE cf cf170 from hke), (show WrV cf170 (tf 6).toInt from hwr), (show (cf170 33).toInt = (cf 33).toInt from by first | exact oz_1687f4cc65 e15 e176 | omega), (show (cf170 38).toInt = (cf 38).toInt from by first | exact oz_1687f4cc65 e16 e177 | omega), (show (cf170 48).toInt = (cf 48).toInt from by first | exact oz_1687f4cc65 e17 e178 | omega), (show (cf170 46).toInt = (cf 46).toInt from by first | exact oz_1687f4cc65 e18 e179 | omega), (show (cf170 47).toInt = (cf 47).toInt from by first | exact oz_1687f4cc65 e19 e180 | omega), (show (cf170 57).toInt = (cf 57).toInt from by first | exact oz_1687f4cc65 e20 e181 | omega), (show ZPl cf170 na ma p0 p1.toInt from (zr_no (by omega))), (show R_mp_checkPlace ta na ca p0 p1 cf cf170 from (Or.inl (Or.inl ⟨nc1, v4, e7, cf9, e31, z32, ez32, Or.inr ⟨nc33, z84, ez84, Or.inl ⟨nc85, z87, ez87, Or.inr ⟨nc88, Or.inr ⟨nc120, z152, ez152, v154, e159, z160, ez160, Or.inl ⟨nc161, v165, e168, cf170, e192, rfl⟩⟩⟩⟩⟩⟩)))⟩) d_Mpg_checkPlace_106)
            · have nc161 : z160.toInt = (1 : Int) := (i_eq (x := z160) (y := 1)).mp c161
              refine lv_iconst (v := 1) S.x S.b d_Mpg_checkPlace_85 (by decide) ?_
              refine lv_goto (tgt := 90) S.x S.b d_Mpg_checkPlace_86 (by decide) ?_
              refine lv_istore_n (lv' := [(3, .int 1), (0, .ref h), (1, .int p0), (2, .int p1)]) S.x S.b d_Mpg_checkPlace_90 rfl hl (by decide) rfl (fun ls hl => ?_)
              refine lv_iload_n S.x S.b d_Mpg_checkPlace_91 rfl (lv_at hl 0 rfl) ?_
              refine lv_if_ne (tgt := 106) S.x S.b d_Mpg_checkPlace_92 (by decide) (fun c193 => ?_) (fun c193 => ?_)
              ·
                first | exact px_vret S hr hlk hAe hw (Nat.le_of_ble_eq_true rfl) (Nat.le_of_ble_eq_true rfl) (⟨cf9, rfl, (show KpE cf cf9 from hke), (show WrV cf9 (tf 6).toInt from hwr), (show (cf9 33).toInt = (cf 33).toInt from e15), (show (cf9 38).toInt = (cf 38).toInt from e16), (show (cf9 48).toInt = (cf 48).toInt from e17), (show (cf9 46).toInt = (cf 46).toInt from e18), (show (cf9 47).toInt = (cf 47).toInt from e19), (show (cf9 57).toInt = (cf 57).toInt from e20), (show ZPl cf9 na ma p0 p1.toInt from (zr_no (by omega))), (show R_mp_checkPlace ta na ca p0 p1 cf cf9 from (Or.inl (Or.inl ⟨nc1, v4, e7, cf9, e31, z32, ez32, Or.inr ⟨nc33, z84, ez84, Or.inl ⟨nc85, z87, ez87, Or.inr ⟨nc88, Or.inr ⟨nc120, z152, ez152, v154, e159, z160, ez160, Or.inr ⟨nc161, rfl⟩⟩⟩⟩⟩⟩)))⟩) d_Mpg_checkPlace_106 | (exact px_vret S hr hlk hAe hw (Nat.le_of_ble_eq_true rfl) (Nat.le_of_ble_eq_true rfl) (⟨cf9, rfl, (show KpE cf cf9 from hke), (show WrV cf9 (tf 6).toInt from hwr), (show (cf9 33).toInt = (cf 33).toInt from by first | exact e15 | omega), (show (cf9 38).toInt = (cf 38).toInt from by first | exact e16 | omega), (show (cf9 48).toInt = (cf 48).toInt from by first | exact e17 | omega), (show (cf9 46).toInt = (cf 46).toInt from by first | exact e18 | omega), (show (cf9 47).toInt = (cf 47).toInt from by first | exact e19 | omega), (show (cf9 57).toInt = (cf 57).toInt from by first | exact e20 | omega), (show ZPl cf9 na ma p0 p1.toInt from (zr_no (by omega))), (show R_mp_checkPlace ta na ca p0 p1 cf cf9 from (Or.inl (Or.inl ⟨nc1, v4, e7, cf9, e31, z32, ez32, Or.inr ⟨nc33, z84, ez84, Or.inl ⟨nc85, z87, ez87, Or.inr ⟨nc88, Or.inr ⟨nc120, z152, ez152, v154, e159, z160, ez160, Or.inr ⟨nc161, rfl⟩⟩⟩⟩⟩⟩)))⟩) d_Mpg_checkPlace_106)
              · exact absurd c193 (by decide)
      · have nc85 : z84.toInt = (2 : Int) := (i_eq (x := z84) (y := 2)).mp c85
        refine lv_iload_n S.x S.b d_Mpg_checkPlace_40 rfl (lv_at hl 2 rfl) ?_
        refine lv_if_ne (tgt := 48) S.x S.b d_Mpg_checkPlace_41 (by decide) (fun c194 => ?_) (fun c194 => ?_)
        · have nc194 : ¬ p1.toInt = (0 : Int) := mt (i_eq (x := p1) (y := 0)).mpr c194
          refine lv_iconst (v := 0) S.x S.b d_Mpg_checkPlace_48 (by decide) ?_
          refine lv_istore_n (lv' := [(3, .int 0), (0, .ref h), (1, .int p0), (2, .int p1)]) S.x S.b d_Mpg_checkPlace_49 rfl hl (by decide) rfl (fun ls hl => ?_)
          refine lv_aload_n S.x S.b d_Mpg_checkPlace_50 rfl (lv_at hl 1 rfl) ?_
          refine gP_14 S hT hw 0 rfl m9_238 d_Mpg_checkPlace_51 ?_
          refine lv_iload_n S.x S.b d_Mpg_checkPlace_54 rfl (lv_at hl 2 rfl) ?_
          refine px_bald S hT hw 0 10 (n := 2100) (f := (na 14)) rfl gp_14 (x := p0) (vp_in_iff.mpr (by first | exact oz_a7e05de1cd hrg.2.2 hrg.2.1 g1 g2 | (constructor <;> omega))) d_Mpg_checkPlace_55 ?_
          refine lv_topi (fun z196 ez196 => ?_)
          have lz196 := Int32.le_toInt z196
          have uz196 := Int32.toInt_lt z196
          have rz196 := EcV.kd hec_p0 ez196
          refine lv_iconst (v := 2) S.x S.b d_Mpg_checkPlace_56 (by decide) ?_
          refine lv_icmp_ne (tgt := 91) S.x S.b d_Mpg_checkPlace_57 (by decide) (fun c197 => ?_) (fun c197 => ?_)
          · have nc197 : ¬ z196.toInt = (2 : Int) := mt (i_eq (x := z196) (y := 2)).mpr c197
            refine lv_iload_n S.x S.b d_Mpg_checkPlace_91 rfl (lv_at hl 0 rfl) ?_
            refine lv_if_ne (tgt := 106) S.x S.b d_Mpg_checkPlace_92 (by decide) (fun c199 => ?_) (fun c199 => ?_)
            · exact absurd c199 (by decide)
            ·
              refine lv_aload_n S.x S.b d_Mpg_checkPlace_95 rfl (lv_at hl 1 rfl) ?_
              refine lv_bipush (v := 6) S.x S.b d_Mpg_checkPlace_96 (by decide) ?_
              refine lv_aload_n S.x S.b d_Mpg_checkPlace_98 rfl (lv_at hl 1 rfl) ?_
              refine lv_iload_n S.x S.b d_Mpg_checkPlace_99 rfl (lv_at hl 2 rfl) ?_
              first | refine px_calli (pr := []) (px_runV (As := [.int p0]) (rest := [.int 6, .ref h]) S (c_mp_first l D cs h r g tf ta pf na ma wa cf9 ca ef ea xf xa p0  (show 0 ≤ p0.toInt from hrg.2.2) (show p0.toInt < (pf 13).toInt from (oz_7319c2f99d g1 hrg.2.1)) (show (pf 13).toInt ≤ 2100 from g2) htk (FsI.le (N' := (pf 13).toInt) hfs (by omega)) _) hT (pr := []) (pcs := [wdP cs h r g tf ta pf na ma wa cf9 ca ef ea xf xa]) hw px_X.tt (px_recv hT hw 0 0 rfl rfl rfl) m13_9 m13_6 m13_8 ms_12_15 m1_21 q_Mpg_first ⟨Nat.le_of_ble_eq_true rfl, Nat.le_of_ble_eq_true rfl⟩ hl.1 rfl (Nat.le_of_ble_eq_true rfl) d_Mpg_checkPlace_100 ⟨Nat.le_of_ble_eq_true rfl, Nat.le_of_ble_eq_true rfl⟩) hw hA (fun v201 p200 H locs hp200 hw => ?_) | (refine px_calli (pr := []) (px_runV (As := [.int p0]) (rest := [.int 6, .ref h]) S (c_mp_first l D cs h r g tf ta pf na ma wa cf9 ca ef ea xf xa p0  (show 0 ≤ p0.toInt from by first | exact hrg.2.2 | omega) (show p0.toInt < (pf 13).toInt from by first | exact oz_7319c2f99d g1 hrg.2.1 | omega) (show (pf 13).toInt ≤ 2100 from by first | exact g2 | omega) htk (FsI.le (N' := (pf 13).toInt) hfs (by omega)) _) hT (pr := []) (pcs := [wdP cs h r g tf ta pf na ma wa cf9 ca ef ea xf xa]) hw px_X.tt (px_recv hT hw 0 0 rfl rfl rfl) m13_9 m13_6 m13_8 ms_12_15 m1_21 q_Mpg_first ⟨Nat.le_of_ble_eq_true rfl, Nat.le_of_ble_eq_true rfl⟩ hl.1 rfl (Nat.le_of_ble_eq_true rfl) d_Mpg_checkPlace_100 ⟨Nat.le_of_ble_eq_true rfl, Nat.le_of_ble_eq_true rfl⟩) hw hA (fun v201 p200 H locs hp200 hw => ?_))
              obtain ⟨rfl, e202, e203, e204⟩ := hp200
              have e202 : 0 ≤ v201.toInt := e202
              have e203 : v201.toInt < (tf 6).toInt := e203
              have e204 : R_mp_first na p0 v201 := e204
              have lv201 := Int32.le_toInt v201
              have uv201 := Int32.toInt_lt v201
              first | refine px_callv (pr := []) (px_runV (As := [.int 6, .int v201]) (rest := []) S (c_mp_bad l D cs h r g tf ta pf na ma wa ca ef ea xf xa cf9 6 v201  (show 1 ≤ (6 : Int) from oz_2c1e0e66aa) (show 0 ≤ v201.toInt from e202) (show v201.toInt < (tf 6).toInt from e203) htk hwr _) hT (pr := []) (pcs := [wdP cs h r g tf ta pf na ma wa cf9 ca ef ea xf xa]) hw px_X.tt (px_recv hT hw 0 0 rfl rfl rfl) m12_173 m12_170 m12_172 ms_11_12 m1_21 q_Mpg_bad ⟨Nat.le_of_ble_eq_true rfl, Nat.le_of_ble_eq_true rfl⟩ hl.1 rfl (Nat.le_of_ble_eq_true rfl) d_Mpg_checkPlace_103 ⟨Nat.le_of_ble_eq_true rfl, Nat.le_of_ble_eq_true rfl⟩) hw hA (fun p207 H locs hp207 hw => ?_) | (refine px_callv (pr := []) (px_runV (As := [.int 6, .int v201]) (rest := []) S (c_mp_bad l D cs h r g tf ta pf na ma wa ca ef ea xf xa cf9 6 v201  (show 1 ≤ (6 : Int) from by first | exact oz_2c1e0e66aa | omega) (show 0 ≤ v201.toInt from by first | exact e202 | omega) (show v201.toInt < (tf 6).toInt from by first | exact e203 | omega) htk hwr _) hT (pr := []) (pcs := [wdP cs h r g tf ta pf na ma wa cf9 ca ef ea xf xa]) hw px_X.tt (px_recv hT hw 0 0 rfl rfl rfl) m12_173 m12_170 m12_172 ms_11_12 m1_21 q_Mpg_bad ⟨Nat.le_of_ble_eq_true rfl, Nat.le_of_ble_eq_true rfl⟩ hl.1 rfl (Nat.le_of_ble_eq_true rfl) d_Mpg_checkPlace_103 ⟨Nat.le_of_ble_eq_true rfl, Nat.le_of_ble_eq_true rfl⟩) hw hA (fun p207 H locs hp207 hw => ?_))
              obtain ⟨cf206, rfl, e209, e210, e211, e212, e213, e214, e215, e216, e217, e218, e219, e220, e221, e222, e223, e224, e225, e226, e227, e228⟩ := hp207
              have e209 : KpE cf9 cf206 := e209
              have hke := (hke).tr e209
              have hkz_e209 := e209.2
              have e210 : WrV cf206 (tf 6).toInt := e210
              have hwr := e210
              have hw0_e210 := hwr.1
              have e211 : 1 ≤ (cf206 30).toInt := e211
              have e212 : (cf206 33).toInt = (cf9 33).toInt := e212
              have e213 : (cf206 38).toInt = (cf9 38).toInt := e213
              have e214 : (cf206 48).toInt = (cf9 48).toInt := e214
              have e215 : (cf206 46).toInt = (cf9 46).toInt := e215
              have e216 : (cf206 47).toInt = (cf9 47).toInt := e216
              have e217 : (cf206 57).toInt = (cf9 57).toInt := e217
              have e218 : (cf206 37).toInt = (cf9 37).toInt := e218
              have e219 : (cf206 42).toInt = (cf9 42).toInt := e219
              have e220 : (cf206 43).toInt = (cf9 43).toInt := e220
              have e221 : (cf206 44).toInt = (cf9 44).toInt := e221
              have e222 : (cf206 45).toInt = (cf9 45).toInt := e222
              have e223 : (cf206 54).toInt = (cf9 54).toInt := e223
              have e224 : (cf206 55).toInt = (cf9 55).toInt := e224
              have e225 : (cf206 58).toInt = (cf9 58).toInt := e225
              have e226 : (cf206 59).toInt = (cf9 59).toInt := e226
              have e227 : (cf206 41).toInt = (cf9 41).toInt := e227
              have e228 : R_mp_bad (6 : Int32) v201 cf9 cf206 := e228
              first | exact px_vret S hr hlk hAe hw (Nat.le_of_ble_eq_true rfl) (Nat.le_of_ble_eq_true rfl) (⟨cf206, rfl, (show KpE cf cf206 from hke), (show WrV cf206 (tf 6).toInt from hwr), (show (cf206 33).toInt = (cf 33).toInt from (oz_1687f4cc65 e15 e212)), (show (cf206 38).toInt = (cf 38).toInt from (oz_1687f4cc65 e16 e213)), (show (cf206 48).toInt = (cf 48).toInt from (oz_1687f4cc65 e17 e214)), (show (cf206 46).toInt = (cf 46).toInt from (oz_1687f4cc65 e18 e215)), (show (cf206 47).toInt = (cf 47).toInt from (oz_1687f4cc65 e19 e216)), (show (cf206 57).toInt = (cf 57).toInt from (oz_1687f4cc65 e20 e217)), (show ZPl cf206 na ma p0 p1.toInt from (zr_no (by omega))), (show R_mp_checkPlace ta na ca p0 p1 cf cf206 from (Or.inl (Or.inl ⟨nc1, v4, e7, cf9, e31, z32, ez32, Or.inr ⟨nc33, z84, ez84, Or.inr ⟨nc85, Or.inl ⟨nc194, z196, ez196, Or.inl ⟨nc197, v201, e204, cf206, e228, rfl⟩⟩⟩⟩⟩)))⟩) d_Mpg_checkPlace_106 | (exact px_vret S hr hlk hAe hw (Nat.le_of_ble_eq_true rfl) (Nat.le_of_ble_eq_true rfl) (⟨cf206, rfl, (show KpE cf cf206 from hke), (show WrV cf206 (tf 6).toInt from hwr), (show (cf206 33).toInt = (cf 33).toInt from by first | exact oz_1687f4cc65 e15 e212 | omega), (show (cf206 38).toInt = (cf 38).toInt from by first | exact oz_1687f4cc65 e16 e213 | omega), (show (cf206 48).toInt = (cf 48).toInt from by first | exact oz_1687f4cc65 e17 e214 | omega), (show (cf206 46).toInt = (cf 46).toInt from by first | exact oz_1687f4cc65 e18 e215 | omega), (show (cf206 47).toInt = (cf 47).toInt from by first | exact oz_1687f4cc65 e19 e216 | omega), (show (cf206 57).toInt = (cf 57).toInt from by first | exact oz_1687f4cc65 e20 e217 | omega), (show ZPl cf206 na ma p0 p1.toInt from (zr_no (by omega))), (show R_mp_checkPlace ta na ca p0 p1 cf cf206 from (Or.inl (Or.inl ⟨nc1, v4, e7, cf9, e31, z32, ez32, Or.inr ⟨nc33, z84, ez84, Or.inr ⟨nc85, Or.inl ⟨nc194, z196, ez196, Or.inl ⟨nc197, v201, e204, cf206, e228, rfl⟩⟩⟩⟩⟩)))⟩) d_Mpg_checkPlace_106)
          · have nc197 : z196.toInt = (2 : Int) := (i_eq (x := z196) (y := 2)).mp c197
            refine lv_iload_n S.x S.b d_Mpg_checkPlace_60 rfl (lv_at hl 3 rfl) ?_
            refine lv_iconst (v := 1) S.x S.b d_Mpg_checkPlace_61 (by decide) ?_
            refine lv_icmp_ne (tgt := 91) S.x S.b d_Mpg_checkPlace_62 (by decide) (fun c229 => ?_) (fun c229 => ?_)
            · have nc229 : ¬ p1.toInt = (1 : Int) := mt (i_eq (x := p1) (y := 1)).mpr c229
              refine lv_iload_n S.x S.b d_Mpg_checkPlace_91 rfl (lv_at hl 0 rfl) ?_
              refine lv_if_ne (tgt := 106) S.x S.b d_Mpg_checkPlace_92 (by decide) (fun c231 => ?_) (fun c231 => ?_)
              · exact absurd c231 (by decide)
              ·
                refine lv_aload_n S.x S.b d_Mpg_checkPlace_95 rfl (lv_at hl 1 rfl) ?_
                refine lv_bipush (v := 6) S.x S.b d_Mpg_checkPlace_96 (by decide) ?_
                refine lv_aload_n S.x S.b d_Mpg_checkPlace_98 rfl (lv_at hl 1 rfl) ?_
                refine lv_iload_n S.x S.b d_Mpg_checkPlace_99 rfl (lv_at hl 2 rfl) ?_
                first | refine px_calli (pr := []) (px_runV (As := [.int p0]) (rest := [.int 6, .ref h]) S (c_mp_first l D cs h r g tf ta pf na ma wa cf9 ca ef ea xf xa p0  (show 0 ≤ p0.toInt from hrg.2.2) (show p0.toInt < (pf 13).toInt from (oz_7319c2f99d g1 hrg.2.1)) (show (pf 13).toInt ≤ 2100 from g2) htk (FsI.le (N' := (pf 13).toInt) hfs (by omega)) _) hT (pr := []) (pcs := [wdP cs h r g tf ta pf na ma wa cf9 ca ef ea xf xa]) hw px_X.tt (px_recv hT hw 0 0 rfl rfl rfl) m13_9 m13_6 m13_8 ms_12_15 m1_21 q_Mpg_first ⟨Nat.le_of_ble_eq_true rfl, Nat.le_of_ble_eq_true rfl⟩ hl.1 rfl (Nat.le_of_ble_eq_true rfl) d_Mpg_checkPlace_100 ⟨Nat.le_of_ble_eq_true rfl, Nat.le_of_ble_eq_true rfl⟩) hw hA (fun v233 p232 H locs hp232 hw => ?_) | (refine px_calli (pr := []) (px_runV (As := [.int p0]) (rest := [.int 6, .ref h]) S (c_mp_first l D cs h r g tf ta pf na ma wa cf9 ca ef ea xf xa p0  (show 0 ≤ p0.toInt from by first | exact hrg.2.2 | omega) (show p0.toInt < (pf 13).toInt from by first | exact oz_7319c2f99d g1 hrg.2.1 | omega) (show (pf 13).toInt ≤ 2100 from by first | exact g2 | omega) htk (FsI.le (N' := (pf 13).toInt) hfs (by omega)) _) hT (pr := []) (pcs := [wdP cs h r g tf ta pf na ma wa cf9 ca ef ea xf xa]) hw px_X.tt (px_recv hT hw 0 0 rfl rfl rfl) m13_9 m13_6 m13_8 ms_12_15 m1_21 q_Mpg_first ⟨Nat.le_of_ble_eq_true rfl, Nat.le_of_ble_eq_true rfl⟩ hl.1 rfl (Nat.le_of_ble_eq_true rfl) d_Mpg_checkPlace_100 ⟨Nat.le_of_ble_eq_true rfl, Nat.le_of_ble_eq_true rfl⟩) hw hA (fun v233 p232 H locs hp232 hw => ?_))
                obtain ⟨rfl, e234, e235, e236⟩ := hp232
                have e234 : 0 ≤ v233.toInt := e234
                have e235 : v233.toInt < (tf 6).toInt := e235
                have e236 : R_mp_first na p0 v233 := e236
                have lv233 := Int32.le_toInt v233
                have uv233 := Int32.toInt_lt v233
                first | refine px_callv (pr := []) (px_runV (As := [.int 6, .int v233]) (rest := []) S (c_mp_bad l D cs h r g tf ta pf na ma wa ca ef ea xf xa cf9 6 v233  (show 1 ≤ (6 : Int) from oz_2c1e0e66aa) (show 0 ≤ v233.toInt from e234) (show v233.toInt < (tf 6).toInt from e235) htk hwr _) hT (pr := []) (pcs := [wdP cs h r g tf ta pf na ma wa cf9 ca ef ea xf xa]) hw px_X.tt (px_recv hT hw 0 0 rfl rfl rfl) m12_173 m12_170 m12_172 ms_11_12 m1_21 q_Mpg_bad ⟨Nat.le_of_ble_eq_true rfl, Nat.le_of_ble_eq_true rfl⟩ hl.1 rfl (Nat.le_of_ble_eq_true rfl) d_Mpg_checkPlace_103 ⟨Nat.le_of_ble_eq_true rfl, Nat.le_of_ble_eq_true rfl⟩) hw hA (fun p239 H locs hp239 hw => ?_) | (refine px_callv (pr := []) (px_runV (As := [.int 6, .int v233]) (rest := []) S (c_mp_bad l D cs h r g tf ta pf na ma wa ca ef ea xf xa cf9 6 v233  (show 1 ≤ (6 : Int) from by first | exact oz_2c1e0e66aa | omega) (show 0 ≤ v233.toInt from by first | exact e234 | omega) (show v233.toInt < (tf 6).toInt from by first | exact e235 | omega) htk hwr _) hT (pr := []) (pcs := [wdP cs h r g tf ta pf na ma wa cf9 ca ef ea xf xa]) hw px_X.tt (px_recv hT hw 0 0 rfl rfl rfl) m12_173 m12_170 m12_172 ms_11_12 m1_21 q_Mpg_bad ⟨Nat.le_of_ble_eq_true rfl, Nat.le_of_ble_eq_true rfl⟩ hl.1 rfl (Nat.le_of_ble_eq_true rfl) d_Mpg_checkPlace_103 ⟨Nat.le_of_ble_eq_true rfl, Nat.le_of_ble_eq_true rfl⟩) hw hA (fun p239 H locs hp239 hw => ?_))
                obtain ⟨cf238, rfl, e241, e242, e243, e244, e245, e246, e247, e248, e249, e250, e251, e252, e253, e254, e255, e256, e257, e258, e259, e260⟩ := hp239
                have e241 : KpE cf9 cf238 := e241
                have hke := (hke).tr e241
                have hkz_e241 := e241.2
                have e242 : WrV cf238 (tf 6).toInt := e242
                have hwr := e242
                have hw0_e242 := hwr.1
                have e243 : 1 ≤ (cf238 30).toInt := e243
                have e244 : (cf238 33).toInt = (cf9 33).toInt := e244
                have e245 : (cf238 38).toInt = (cf9 38).toInt := e245
                have e246 : (cf238 48).toInt = (cf9 48).toInt := e246
                have e247 : (cf238 46).toInt = (cf9 46).toInt := e247
                have e248 : (cf238 47).toInt = (cf9 47).toInt := e248
                have e249 : (cf238 57).toInt = (cf9 57).toInt := e249
                have e250 : (cf238 37).toInt = (cf9 37).toInt := e250
                have e251 : (cf238 42).toInt = (cf9 42).toInt := e251
                have e252 : (cf238 43).toInt = (cf9 43).toInt := e252
                have e253 : (cf238 44).toInt = (cf9 44).toInt := e253
                have e254 : (cf238 45).toInt = (cf9 45).toInt := e254
                have e255 : (cf238 54).toInt = (cf9 54).toInt := e255
                have e256 : (cf238 55).toInt = (cf9 55).toInt := e256
                have e257 : (cf238 58).toInt = (cf9 58).toInt := e257
                have e258 : (cf238 59).toInt = (cf9 59).toInt := e258
                have e259 : (cf238 41).toInt = (cf9 41).toInt := e259
                have e260 : R_mp_bad (6 : Int32) v233 cf9 cf238 := e260
                first | exact px_vret S hr hlk hAe hw (Nat.le_of_ble_eq_true rfl) (Nat.le_of_ble_eq_true rfl) (⟨cf238, rfl, (show KpE cf cf238 from hke), (show WrV cf238 (tf 6).toInt from hwr), (show (cf238 33).toInt = (cf 33).toInt from (oz_1687f4cc65 e15 e244)), (show (cf238 38).toInt = (cf 38).toInt from (oz_1687f4cc65 e16 e245)), (show (cf238 48).toInt = (cf 48).toInt from (oz_1687f4cc65 e17 e246)), (show (cf238 46).toInt = (cf 46).toInt from (oz_1687f4cc65 e18 e247)), (show (cf238 47).toInt = (cf 47).toInt from (oz_1687f4cc65 e19 e248)), (show (cf238 57).toInt = (cf 57).toInt from (oz_1687f4cc65 e20 e249)), (show ZPl cf238 na ma p0 p1.toInt from (zr_no (by omega))), (show R_mp_checkPlace ta na ca p0 p1 cf cf238 from (Or.inl (Or.inl ⟨nc1, v4, e7, cf9, e31, z32, ez32, Or.inr ⟨nc33, z84, ez84, Or.inr ⟨nc85, Or.inl ⟨nc194, z196, ez196, Or.inr ⟨nc197, Or.inl ⟨nc229, v233, e236, cf238, e260, rfl⟩⟩⟩⟩⟩⟩)))⟩) d_Mpg_checkPlace_106 | (exact px_vret S hr hlk hAe hw (Nat.le_of_ble_eq_true rfl) (Nat.le_of_ble_eq_true rfl) (⟨cf238, rfl, (show KpE cf cf238 from hke), (show WrV cf238 (tf 6).toInt from hwr), (show (cf238 33).toInt = (cf 33).toInt from by first | exact oz_1687f4cc65 e15 e244 | omega), (show (cf238 38).toInt = (cf 38).toInt from by first | exact oz_1687f4cc65 e16 e245 | omega), (show (cf238 48).toInt = (cf 48).toInt from by first | exact oz_1687f4cc65 e17 e246 | omega), (show (cf238 46).toInt = (cf 46).toInt from by first | exact oz_1687f4cc65 e18 e247 | omega), (show (cf238 47).toInt = (cf 47).toInt from by first | exact oz_1687f4cc65 e19 e248 | omega), (show (cf238 57).toInt = (cf 57).toInt from by first | exact oz_1687f4cc65 e20 e249 | omega), (show ZPl cf238 na ma p0 p1.toInt from (zr_no (by omega))), (show R_mp_checkPlace ta na ca p0 p1 cf cf238 from (Or.inl (Or.inl ⟨nc1, v4, e7, cf9, e31, z32, ez32, Or.inr ⟨nc33, z84, ez84, Or.inr ⟨nc85, Or.inl ⟨nc194, z196, ez196, Or.inr ⟨nc197, Or.inl ⟨nc229, v233, e236, cf238, e260, rfl⟩⟩⟩⟩⟩⟩)))⟩) d_Mpg_checkPlace_106)
            · have nc229 : p1.toInt = (1 : Int) := (i_eq (x := p1) (y := 1)).mp c229
              refine lv_aload_n S.x S.b d_Mpg_checkPlace_65 rfl (lv_at hl 1 rfl) ?_
              refine gP_35 S hT hw 0 rfl m10_24 d_Mpg_checkPlace_66 ?_
              refine lv_aload_n S.x S.b d_Mpg_checkPlace_69 rfl (lv_at hl 1 rfl) ?_
              refine lv_aload_n S.x S.b d_Mpg_checkPlace_70 rfl (lv_at hl 1 rfl) ?_
              refine gP_15 S hT hw 0 rfl m9_239 d_Mpg_checkPlace_71 ?_
              refine lv_iload_n S.x S.b d_Mpg_checkPlace_74 rfl (lv_at hl 2 rfl) ?_
              refine px_iald S hT hw 0 11 (n := 2100) (f := (na 15)) rfl gp_15 (x := p0) (vp_in_iff.mpr (by first | exact oz_a7e05de1cd hrg.2.2 hrg.2.1 g1 g2 | (constructor <;> omega))) d_Mpg_checkPlace_75 ?_
              refine lv_topi (fun z261 ez261 => ?_)
              have lz261 := Int32.le_toInt z261
              have uz261 := Int32.toInt_lt z261
              have rz261 := EcV.tok hec_p0 ez261
              refine lv_iconst (v := 0) S.x S.b d_Mpg_checkPlace_76 (by decide) ?_
              first | refine px_calli (pr := []) (px_runV (As := [.int z261, .int 0]) (rest := [.ref (r 35)]) S (c_mp_find l D cs h r g tf ta pf na ma wa cf9 ca ef ea xf xa z261 0  (show 0 ≤ z261.toInt from rz261.1) (show z261.toInt < (tf 6).toInt from (oz_7fe81129bf rz261.2)) (show (tf 6).toInt ≤ 2049 from g3) (show 0 ≤ (0 : Int) from oz_5a341f00aa) (show 0 ≤ (cf9 33).toInt from (oz_e2fef14871 e15 g4 g5)) htk (KnT.eq hkt (by omega)) _) hT (pr := []) (pcs := [wdP cs h r g tf ta pf na ma wa cf9 ca ef ea xf xa]) hw px_X.tt (px_recv hT hw 0 0 rfl rfl rfl) m12_181 m12_178 m12_180 ms_11_14 m1_21 q_Mpg_find ⟨Nat.le_of_ble_eq_true rfl, Nat.le_of_ble_eq_true rfl⟩ hl.1 rfl (Nat.le_of_ble_eq_true rfl) d_Mpg_checkPlace_77 ⟨Nat.le_of_ble_eq_true rfl, Nat.le_of_ble_eq_true rfl⟩) hw hA (fun v263 p262 H locs hp262 hw => ?_) | (refine px_calli (pr := []) (px_runV (As := [.int z261, .int 0]) (rest := [.ref (r 35)]) S (c_mp_find l D cs h r g tf ta pf na ma wa cf9 ca ef ea xf xa z261 0  (show 0 ≤ z261.toInt from by first | exact rz261.1 | omega) (show z261.toInt < (tf 6).toInt from by first | exact oz_7fe81129bf rz261.2 | omega) (show (tf 6).toInt ≤ 2049 from by first | exact g3 | omega) (show 0 ≤ (0 : Int) from by first | exact oz_5a341f00aa | omega) (show 0 ≤ (cf9 33).toInt from by first | exact oz_e2fef14871 e15 g4 g5 | omega) htk (KnT.eq hkt (by omega)) _) hT (pr := []) (pcs := [wdP cs h r g tf ta pf na ma wa cf9 ca ef ea xf xa]) hw px_X.tt (px_recv hT hw 0 0 rfl rfl rfl) m12_181 m12_178 m12_180 ms_11_14 m1_21 q_Mpg_find ⟨Nat.le_of_ble_eq_true rfl, Nat.le_of_ble_eq_true rfl⟩ hl.1 rfl (Nat.le_of_ble_eq_true rfl) d_Mpg_checkPlace_77 ⟨Nat.le_of_ble_eq_true rfl, Nat.le_of_ble_eq_true rfl⟩) hw hA (fun v263 p262 H locs hp262 hw => ?_))
              obtain ⟨rfl, e264, e265, e266, e267, e268⟩ := hp262
              have e264 : -1 ≤ v263.toInt := e264
              have e265 : v263.toInt < (cf9 33).toInt := e265
              have e266 : 0 ≤ v263.toInt → (0 : Int) ≤ v263.toInt := e266
              have e267 : FndV ta ca (cf9 33).toInt z261 (0 : Int) v263.toInt := e267
              have hfd := e267
              have e268 : R_mp_find ta cf9 ca z261 (0 : Int32) v263 := e268
              have lv263 := Int32.le_toInt v263
              have uv263 := Int32.toInt_lt v263
              have hps := nm_pos (hnj (by omega)) (by omega) hfd ez261 (by omega)
              refine px_iald S hT hw 0 24 (n := 1100) (f := (ca 35)) rfl gp_35 (x := v263) (vp_in_iff.mpr (by constructor <;> omega)) d_Mpg_checkPlace_80 ?_
              refine lv_topi (fun z269 ez269 => ?_)
              have lz269 := Int32.le_toInt z269
              have uz269 := Int32.toInt_lt z269
              refine lv_iconst (v := 1) S.x S.b d_Mpg_checkPlace_81 (by decide) ?_
              refine lv_icmp_ne (tgt := 89) S.x S.b d_Mpg_checkPlace_82 (by decide) (fun c270 => ?_) (fun c270 => ?_)
              · have nc270 : ¬ z269.toInt = (1 : Int) := mt (i_eq (x := z269) (y := 1)).mpr c270
                refine lv_iconst (v := 0) S.x S.b d_Mpg_checkPlace_89 (by decide) ?_
                refine lv_istore_n (lv' := [(3, .int 0), (0, .ref h), (1, .int p0), (2, .int p1)]) S.x S.b d_Mpg_checkPlace_90 rfl hl (by decide) rfl (fun ls hl => ?_)
                refine lv_iload_n S.x S.b d_Mpg_checkPlace_91 rfl (lv_at hl 0 rfl) ?_
                refine lv_if_ne (tgt := 106) S.x S.b d_Mpg_checkPlace_92 (by decide) (fun c272 => ?_) (fun c272 => ?_)
                · exact absurd c272 (by decide)
                ·
                  refine lv_aload_n S.x S.b d_Mpg_checkPlace_95 rfl (lv_at hl 1 rfl) ?_
                  refine lv_bipush (v := 6) S.x S.b d_Mpg_checkPlace_96 (by decide) ?_
                  refine lv_aload_n S.x S.b d_Mpg_checkPlace_98 rfl (lv_at hl 1 rfl) ?_
                  refine lv_iload_n S.x S.b d_Mpg_checkPlace_99 rfl (lv_at hl 2 rfl) ?_
                  first | refine px_calli (pr := []) (px_runV (As := [.int p0]) (rest := [.int 6, .ref h]) S (c_mp_first l D cs h r g tf ta pf na ma wa cf9 ca ef ea xf xa p0  (show 0 ≤ p0.toInt from hrg.2.2) (show p0.toInt < (pf 13).toInt from (oz_7319c2f99d g1 hrg.2.1)) (show (pf 13).toInt ≤ 2100 from g2) htk (FsI.le (N' := (pf 13).toInt) hfs (by omega)) _) hT (pr := []) (pcs := [wdP cs h r g tf ta pf na ma wa cf9 ca ef ea xf xa]) hw px_X.tt (px_recv hT hw 0 0 rfl rfl rfl) m13_9 m13_6 m13_8 ms_12_15 m1_21 q_Mpg_first ⟨Nat.le_of_ble_eq_true rfl, Nat.le_of_ble_eq_true rfl⟩ hl.1 rfl (Nat.le_of_ble_eq_true rfl) d_Mpg_checkPlace_100 ⟨Nat.le_of_ble_eq_true rfl, Nat.le_of_ble_eq_true rfl⟩) hw hA (fun v274 p273 H locs hp273 hw => ?_) | (refine px_calli (pr := []) (px_runV (As := [.int p0]) (rest := [.int 6, .ref h]) S (c_mp_first l D cs h r g tf ta pf na ma wa cf9 ca ef ea xf xa p0  (show 0 ≤ p0.toInt from by first | exact hrg.2.2 | omega) (show p0.toInt < (pf 13).toInt from by first | exact oz_7319c2f99d g1 hrg.2.1 | omega) (show (pf 13).toInt ≤ 2100 from by first | exact g2 | omega) htk (FsI.le (N' := (pf 13).toInt) hfs (by omega)) _) hT (pr := []) (pcs := [wdP cs h r g tf ta pf na ma wa cf9 ca ef ea xf xa]) hw px_X.tt (px_recv hT hw 0 0 rfl rfl rfl) m13_9 m13_6 m13_8 ms_12_15 m1_21 q_Mpg_first ⟨Nat.le_of_ble_eq_true rfl, Nat.le_of_ble_eq_true rfl⟩ hl.1 rfl (Nat.le_of_ble_eq_true rfl) d_Mpg_checkPlace_100 ⟨Nat.le_of_ble_eq_true rfl, Nat.le_of_ble_eq_true rfl⟩) hw hA (fun v274 p273 H locs hp273 hw => ?_))
                  obtain ⟨rfl, e275, e276, e277⟩ := hp273
                  have e275 : 0 ≤ v274.toInt := e275
                  have e276 : v274.toInt < (tf 6).toInt := e276
                  have e277 : R_mp_first na p0 v274 := e277
                  have lv274 := Int32.le_toInt v274
                  have uv274 := Int32.toInt_lt v274
                  first | refine px_callv (pr := []) (px_runV (As := [.int 6, .int v274]) (rest := []) S (c_mp_bad l D cs h r g tf ta pf na ma wa ca ef ea xf xa cf9 6 v274  (show 1 ≤ (6 : Int) from oz_2c1e0e66aa) (show 0 ≤ v274.toInt from e275) (show v274.toInt < (tf 6).toInt from e276) htk hwr _) hT (pr := []) (pcs := [wdP cs h r g tf ta pf na ma wa cf9 ca ef ea xf xa]) hw px_X.tt (px_recv hT hw 0 0 rfl rfl rfl) m12_173 m12_170 m12_172 ms_11_12 m1_21 q_Mpg_bad ⟨Nat.le_of_ble_eq_true rfl, Nat.le_of_ble_eq_true rfl⟩ hl.1 rfl (Nat.le_of_ble_eq_true rfl) d_Mpg_checkPlace_103 ⟨Nat.le_of_ble_eq_true rfl, Nat.le_of_ble_eq_true rfl⟩) hw hA (fun p280 H locs hp280 hw => ?_) | (refine px_callv (pr := []) (px_runV (As := [.int 6, .int v274]) (rest := []) S (c_mp_bad l D cs h r g tf ta pf na ma wa ca ef ea xf xa cf9 6 v274  (show 1 ≤ (6 : Int) from by first | exact oz_2c1e0e66aa | omega) (show 0 ≤ v274.toInt from by first | exact e275 | omega) (show v274.toInt < (tf 6).toInt from by first | exact e276 | omega) htk hwr _) hT (pr := []) (pcs := [wdP cs h r g tf ta pf na ma wa cf9 ca ef ea xf xa]) hw px_X.tt (px_recv hT hw 0 0 rfl rfl rfl) m12_173 m12_170 m12_172 ms_11_12 m1_21 q_Mpg_bad ⟨Nat.le_of_ble_eq_true rfl, Nat.le_of_ble_eq_true rfl⟩ hl.1 rfl (Nat.le_of_ble_eq_true rfl) d_Mpg_checkPlace_103 ⟨Nat.le_of_ble_eq_true rfl, Nat.le_of_ble_eq_true rfl⟩) hw hA (fun p280 H locs hp280 hw => ?_))
                  obtain ⟨cf279, rfl, e282, e283, e284, e285, e286, e287, e288, e289, e290, e291, e292, e293, e294, e295, e296, e297, e298, e299, e300, e301⟩ := hp280
                  have e282 : KpE cf9 cf279 := e282
                  have hke := (hke).tr e282
                  have hkz_e282 := e282.2
                  have e283 : WrV cf279 (tf 6).toInt := e283
                  have hwr := e283
                  have hw0_e283 := hwr.1
                  have e284 : 1 ≤ (cf279 30).toInt := e284
                  have e285 : (cf279 33).toInt = (cf9 33).toInt := e285
                  have e286 : (cf279 38).toInt = (cf9 38).toInt := e286
                  have e287 : (cf279 48).toInt = (cf9 48).toInt := e287
                  have e288 : (cf279 46).toInt = (cf9 46).toInt := e288
                  have e289 : (cf279 47).toInt = (cf9 47).toInt := e289
                  have e290 : (cf279 57).toInt = (cf9 57).toInt := e290
                  have e291 : (cf279 37).toInt = (cf9 37).toInt := e291
                  have e292 : (cf279 42).toInt = (cf9 42).toInt := e292
                  have e293 : (cf279 43).toInt = (cf9 43).toInt := e293
                  have e294 : (cf279 44).toInt = (cf9 44).toInt := e294
                  have e295 : (cf279 45).toInt = (cf9 45).toInt := e295
                  have e296 : (cf279 54).toInt = (cf9 54).toInt := e296
                  have e297 : (cf279 55).toInt = (cf9 55).toInt := e297
                  have e298 : (cf279 58).toInt = (cf9 58).toInt := e298
                  have e299 : (cf279 59).toInt = (cf9 59).toInt := e299
                  have e300 : (cf279 41).toInt = (cf9 41).toInt := e300
                  have e301 : R_mp_bad (6 : Int32) v274 cf9 cf279 := e301
                  first | exact px_vret S hr hlk hAe hw (Nat.le_of_ble_eq_true rfl) (Nat.le_of_ble_eq_true rfl) (⟨cf279, rfl, (show KpE cf cf279 from hke), (show WrV cf279 (tf 6).toInt from hwr), (show (cf279 33).toInt = (cf 33).toInt from (oz_1687f4cc65 e15 e285)), (show (cf279 38).toInt = (cf 38).toInt from (oz_1687f4cc65 e16 e286)), (show (cf279 48).toInt = (cf 48).toInt from (oz_1687f4cc65 e17 e287)), (show (cf279 46).toInt = (cf 46).toInt from (oz_1687f4cc65 e18 e288)), (show (cf279 47).toInt = (cf 47).toInt from (oz_1687f4cc65 e19 e289)), (show (cf279 57).toInt = (cf 57).toInt from (oz_1687f4cc65 e20 e290)), (show ZPl cf279 na ma p0 p1.toInt from (zr_no (by omega))), (show R_mp_checkPlace ta na ca p0 p1 cf cf279 from (Or.inl (Or.inl ⟨nc1, v4, e7, cf9, e31, z32, ez32, Or.inr ⟨nc33, z84, ez84, Or.inr ⟨nc85, Or.inl ⟨nc194, z196, ez196, Or.inr ⟨nc197, Or.inr ⟨nc229, z261, ez261, v263, e268, z269, ez269, Or.inl ⟨nc270, v274, e277, cf279, e301, rfl⟩⟩⟩⟩⟩⟩⟩)))⟩) d_Mpg_checkPlace_106 | (exact px_vret S hr hlk hAe hw (Nat.le_of_ble_eq_true rfl) (Nat.le_of_ble_eq_true rfl) (⟨cf279, rfl, (show KpE cf cf279 from hke), (show WrV cf279 (tf 6).toInt from hwr), (show (cf279 33).toInt = (cf 33).toInt from by first | exact oz_1687f4cc65 e15 e285 | omega), (show (cf279 38).toInt = (cf 38).toInt from by first | exact oz_1687f4cc65 e16 e286 | omega), (show (cf279 48).toInt = (cf 48).toInt from by first | exact oz_1687f4cc65 e17 e287 | omega), (show (cf279 46).toInt = (cf 46).toInt from by first | exact oz_1687f4cc65 e18 e288 | omega), (show (cf279 47).toInt = (cf 47).toInt from by first | exact oz_1687f4cc65 e19 e289 | omega), (show (cf279 57).toInt = (cf 57).toInt from by first | exact oz_1687f4cc65 e20 e290 | omega), (show ZPl cf279 na ma p0 p1.toInt from (zr_no (by omega))), (show R_mp_checkPlace ta na ca p0 p1 cf cf279 from (Or.inl (Or.inl ⟨nc1, v4, e7, cf9, e31, z32, ez32, Or.inr ⟨nc33, z84, ez84, Or.inr ⟨nc85, Or.inl ⟨nc194, z196, ez196, Or.inr ⟨nc197, Or.inr ⟨nc229, z261, ez261, v263, e268, z269, ez269, Or.inl ⟨nc270, v274, e277, cf279, e301, rfl⟩⟩⟩⟩⟩⟩⟩)))⟩) d_Mpg_checkPlace_106)
              · have nc270 : z269.toInt = (1 : Int) := (i_eq (x := z269) (y := 1)).mp c270
                refine lv_iconst (v := 1) S.x S.b d_Mpg_checkPlace_85 (by decide) ?_
                refine lv_goto (tgt := 90) S.x S.b d_Mpg_checkPlace_86 (by decide) ?_
                refine lv_istore_n (lv' := [(3, .int 1), (0, .ref h), (1, .int p0), (2, .int p1)]) S.x S.b d_Mpg_checkPlace_90 rfl hl (by decide) rfl (fun ls hl => ?_)
                refine lv_iload_n S.x S.b d_Mpg_checkPlace_91 rfl (lv_at hl 0 rfl) ?_
                refine lv_if_ne (tgt := 106) S.x S.b d_Mpg_checkPlace_92 (by decide) (fun c302 => ?_) (fun c302 => ?_)
                ·
                  first | exact px_vret S hr hlk hAe hw (Nat.le_of_ble_eq_true rfl) (Nat.le_of_ble_eq_true rfl) (⟨cf9, rfl, (show KpE cf cf9 from hke), (show WrV cf9 (tf 6).toInt from hwr), (show (cf9 33).toInt = (cf 33).toInt from e15), (show (cf9 38).toInt = (cf 38).toInt from e16), (show (cf9 48).toInt = (cf 48).toInt from e17), (show (cf9 46).toInt = (cf 46).toInt from e18), (show (cf9 47).toInt = (cf 47).toInt from e19), (show (cf9 57).toInt = (cf 57).toInt from e20), (show ZPl cf9 na ma p0 p1.toInt from (zr_no (by omega))), (show R_mp_checkPlace ta na ca p0 p1 cf cf9 from (Or.inl (Or.inl ⟨nc1, v4, e7, cf9, e31, z32, ez32, Or.inr ⟨nc33, z84, ez84, Or.inr ⟨nc85, Or.inl ⟨nc194, z196, ez196, Or.inr ⟨nc197, Or.inr ⟨nc229, z261, ez261, v263, e268, z269, ez269, Or.inr ⟨nc270, rfl⟩⟩⟩⟩⟩⟩⟩)))⟩) d_Mpg_checkPlace_106 | (exact px_vret S hr hlk hAe hw (Nat.le_of_ble_eq_true rfl) (Nat.le_of_ble_eq_true rfl) (⟨cf9, rfl, (show KpE cf cf9 from hke), (show WrV cf9 (tf 6).toInt from hwr), (show (cf9 33).toInt = (cf 33).toInt from by first | exact e15 | omega), (show (cf9 38).toInt = (cf 38).toInt from by first | exact e16 | omega), (show (cf9 48).toInt = (cf 48).toInt from by first | exact e17 | omega), (show (cf9 46).toInt = (cf 46).toInt from by first | exact e18 | omega), (show (cf9 47).toInt = (cf 47).toInt from by first | exact e19 | omega), (show (cf9 57).toInt = (cf 57).toInt from by first | exact e20 | omega), (show ZPl cf9 na ma p0 p1.toInt from (zr_no (by omega))), (show R_mp_checkPlace ta na ca p0 p1 cf cf9 from (Or.inl (Or.inl ⟨nc1, v4, e7, cf9, e31, z32, ez32, Or.inr ⟨nc33, z84, ez84, Or.inr ⟨nc85, Or.inl ⟨nc194, z196, ez196, Or.inr ⟨nc197, Or.inr ⟨nc229, z261, ez261, v263, e268, z269, ez269, Or.inr ⟨nc270, rfl⟩⟩⟩⟩⟩⟩⟩)))⟩) d_Mpg_checkPlace_106)
                · exact absurd c302 (by decide)
        · have nc194 : p1.toInt = (0 : Int) := (i_eq (x := p1) (y := 0)).mp c194
          refine lv_iconst (v := 1) S.x S.b d_Mpg_checkPlace_44 (by decide) ?_
          refine lv_goto (tgt := 49) S.x S.b d_Mpg_checkPlace_45 (by decide) ?_
          refine lv_istore_n (lv' := [(3, .int 1), (0, .ref h), (1, .int p0), (2, .int p1)]) S.x S.b d_Mpg_checkPlace_49 rfl hl (by decide) rfl (fun ls hl => ?_)
          refine lv_aload_n S.x S.b d_Mpg_checkPlace_50 rfl (lv_at hl 1 rfl) ?_
          refine gP_14 S hT hw 0 rfl m9_238 d_Mpg_checkPlace_51 ?_
          refine lv_iload_n S.x S.b d_Mpg_checkPlace_54 rfl (lv_at hl 2 rfl) ?_
          refine px_bald S hT hw 0 10 (n := 2100) (f := (na 14)) rfl gp_14 (x := p0) (vp_in_iff.mpr (by first | exact oz_a7e05de1cd hrg.2.2 hrg.2.1 g1 g2 | (constructor <;> omega))) d_Mpg_checkPlace_55 ?_
          refine lv_topi (fun z303 ez303 => ?_)
          have lz303 := Int32.le_toInt z303
          have uz303 := Int32.toInt_lt z303
          have rz303 := EcV.kd hec_p0 ez303
          refine lv_iconst (v := 2) S.x S.b d_Mpg_checkPlace_56 (by decide) ?_
          refine lv_icmp_ne (tgt := 91) S.x S.b d_Mpg_checkPlace_57 (by decide) (fun c304 => ?_) (fun c304 => ?_)
          · have nc304 : ¬ z303.toInt = (2 : Int) := mt (i_eq (x := z303) (y := 2)).mpr c304
            refine lv_iload_n S.x S.b d_Mpg_checkPlace_91 rfl (lv_at hl 0 rfl) ?_
            refine lv_if_ne (tgt := 106) S.x S.b d_Mpg_checkPlace_92 (by decide) (fun c306 => ?_) (fun c306 => ?_)
            ·
              first | exact px_vret S hr hlk hAe hw (Nat.le_of_ble_eq_true rfl) (Nat.le_of_ble_eq_true rfl) (⟨cf9, rfl, (show KpE cf cf9 from hke), (show WrV cf9 (tf 6).toInt from hwr), (show (cf9 33).toInt = (cf 33).toInt from e15), (show (cf9 38).toInt = (cf 38).toInt from e16), (show (cf9 48).toInt = (cf 48).toInt from e17), (show (cf9 46).toInt = (cf 46).toInt from e18), (show (cf9 47).toInt = (cf 47).toInt from e19), (show (cf9 57).toInt = (cf 57).toInt from e20), (show ZPl cf9 na ma p0 p1.toInt from (zr_no (by omega))), (show R_mp_checkPlace ta na ca p0 p1 cf cf9 from (Or.inl (Or.inl ⟨nc1, v4, e7, cf9, e31, z32, ez32, Or.inr ⟨nc33, z84, ez84, Or.inr ⟨nc85, Or.inr ⟨nc194, z303, ez303, Or.inl ⟨nc304, rfl⟩⟩⟩⟩⟩)))⟩) d_Mpg_checkPlace_106 | (exact px_vret S hr hlk hAe hw (Nat.le_of_ble_eq_true rfl) (Nat.le_of_ble_eq_true rfl) (⟨cf9, rfl, (show KpE cf cf9 from hke), (show WrV cf9 (tf 6).toInt from hwr), (show (cf9 33).toInt = (cf 33).toInt from by first | exact e15 | omega), (show (cf9 38).toInt = (cf 38).toInt from by first | exact e16 | omega), (show (cf9 48).toInt = (cf 48).toInt from by first | exact e17 | omega), (show (cf9 46).toInt = (cf 46).toInt from by first | exact e18 | omega), (show (cf9 47).toInt = (cf 47).toInt from by first | exact e19 | omega), (show (cf9 57).toInt = (cf 57).toInt from by first | exact e20 | omega), (show ZPl cf9 na ma p0 p1.toInt from (zr_no (by omega))), (show R_mp_checkPlace ta na ca p0 p1 cf cf9 from (Or.inl (Or.inl ⟨nc1, v4, e7, cf9, e31, z32, ez32, Or.inr ⟨nc33, z84, ez84, Or.inr ⟨nc85, Or.inr ⟨nc194, z303, ez303, Or.inl ⟨nc304, rfl⟩⟩⟩⟩⟩)))⟩) d_Mpg_checkPlace_106)
            · exact absurd c306 (by decide)
          · have nc304 : z303.toInt = (2 : Int) := (i_eq (x := z303) (y := 2)).mp c304
            refine lv_iload_n S.x S.b d_Mpg_checkPlace_60 rfl (lv_at hl 3 rfl) ?_
            refine lv_iconst (v := 1) S.x S.b d_Mpg_checkPlace_61 (by decide) ?_
            refine lv_icmp_ne (tgt := 91) S.x S.b d_Mpg_checkPlace_62 (by decide) (fun c307 => ?_) (fun c307 => ?_)
            · have nc307 : ¬ p1.toInt = (1 : Int) := mt (i_eq (x := p1) (y := 1)).mpr c307
              refine lv_iload_n S.x S.b d_Mpg_checkPlace_91 rfl (lv_at hl 0 rfl) ?_
              refine lv_if_ne (tgt := 106) S.x S.b d_Mpg_checkPlace_92 (by decide) (fun c309 => ?_) (fun c309 => ?_)
              ·
                first | exact px_vret S hr hlk hAe hw (Nat.le_of_ble_eq_true rfl) (Nat.le_of_ble_eq_true rfl) (⟨cf9, rfl, (show KpE cf cf9 from hke), (show WrV cf9 (tf 6).toInt from hwr), (show (cf9 33).toInt = (cf 33).toInt from e15), (show (cf9 38).toInt = (cf 38).toInt from e16), (show (cf9 48).toInt = (cf 48).toInt from e17), (show (cf9 46).toInt = (cf 46).toInt from e18), (show (cf9 47).toInt = (cf 47).toInt from e19), (show (cf9 57).toInt = (cf 57).toInt from e20), (show ZPl cf9 na ma p0 p1.toInt from (zr_no (by omega))), (show R_mp_checkPlace ta na ca p0 p1 cf cf9 from (Or.inl (Or.inl ⟨nc1, v4, e7, cf9, e31, z32, ez32, Or.inr ⟨nc33, z84, ez84, Or.inr ⟨nc85, Or.inr ⟨nc194, z303, ez303, Or.inr ⟨nc304, Or.inl ⟨nc307, rfl⟩⟩⟩⟩⟩⟩)))⟩) d_Mpg_checkPlace_106 | (exact px_vret S hr hlk hAe hw (Nat.le_of_ble_eq_true rfl) (Nat.le_of_ble_eq_true rfl) (⟨cf9, rfl, (show KpE cf cf9 from hke), (show WrV cf9 (tf 6).toInt from hwr), (show (cf9 33).toInt = (cf 33).toInt from by first | exact e15 | omega), (show (cf9 38).toInt = (cf 38).toInt from by first | exact e16 | omega), (show (cf9 48).toInt = (cf 48).toInt from by first | exact e17 | omega), (show (cf9 46).toInt = (cf 46).toInt from by first | exact e18 | omega), (show (cf9 47).toInt = (cf 47).toInt from by first | exact e19 | omega), (show (cf9 57).toInt = (cf 57).toInt from by first | exact e20 | omega), (show ZPl cf9 na ma p0 p1.toInt from (zr_no (by omega))), (show R_mp_checkPlace ta na ca p0 p1 cf cf9 from (Or.inl (Or.inl ⟨nc1, v4, e7, cf9, e31, z32, ez32, Or.inr ⟨nc33, z84, ez84, Or.inr ⟨nc85, Or.inr ⟨nc194, z303, ez303, Or.inr ⟨nc304, Or.inl ⟨nc307, rfl⟩⟩⟩⟩⟩⟩)))⟩) d_Mpg_checkPlace_106)
              · exact absurd c309 (by decide)
            · have nc307 : p1.toInt = (1 : Int) := (i_eq (x := p1) (y := 1)).mp c307
              refine lv_aload_n S.x S.b d_Mpg_checkPlace_65 rfl (lv_at hl 1 rfl) ?_
              refine gP_35 S hT hw 0 rfl m10_24 d_Mpg_checkPlace_66 ?_
              refine lv_aload_n S.x S.b d_Mpg_checkPlace_69 rfl (lv_at hl 1 rfl) ?_
              refine lv_aload_n S.x S.b d_Mpg_checkPlace_70 rfl (lv_at hl 1 rfl) ?_
              refine gP_15 S hT hw 0 rfl m9_239 d_Mpg_checkPlace_71 ?_
              refine lv_iload_n S.x S.b d_Mpg_checkPlace_74 rfl (lv_at hl 2 rfl) ?_
              refine px_iald S hT hw 0 11 (n := 2100) (f := (na 15)) rfl gp_15 (x := p0) (vp_in_iff.mpr (by first | exact oz_a7e05de1cd hrg.2.2 hrg.2.1 g1 g2 | (constructor <;> omega))) d_Mpg_checkPlace_75 ?_
              refine lv_topi (fun z310 ez310 => ?_)
              have lz310 := Int32.le_toInt z310
              have uz310 := Int32.toInt_lt z310
              have rz310 := EcV.tok hec_p0 ez310
              refine lv_iconst (v := 0) S.x S.b d_Mpg_checkPlace_76 (by decide) ?_
              first | refine px_calli (pr := []) (px_runV (As := [.int z310, .int 0]) (rest := [.ref (r 35)]) S (c_mp_find l D cs h r g tf ta pf na ma wa cf9 ca ef ea xf xa z310 0  (show 0 ≤ z310.toInt from rz310.1) (show z310.toInt < (tf 6).toInt from (oz_7fe81129bf rz310.2)) (show (tf 6).toInt ≤ 2049 from g3) (show 0 ≤ (0 : Int) from oz_5a341f00aa) (show 0 ≤ (cf9 33).toInt from (oz_e2fef14871 e15 g4 g5)) htk (KnT.eq hkt (by omega)) _) hT (pr := []) (pcs := [wdP cs h r g tf ta pf na ma wa cf9 ca ef ea xf xa]) hw px_X.tt (px_recv hT hw 0 0 rfl rfl rfl) m12_181 m12_178 m12_180 ms_11_14 m1_21 q_Mpg_find ⟨Nat.le_of_ble_eq_true rfl, Nat.le_of_ble_eq_true rfl⟩ hl.1 rfl (Nat.le_of_ble_eq_true rfl) d_Mpg_checkPlace_77 ⟨Nat.le_of_ble_eq_true rfl, Nat.le_of_ble_eq_true rfl⟩) hw hA (fun v312 p311 H locs hp311 hw => ?_) | (refine px_calli (pr := []) (px_runV (As := [.int z310, .int 0]) (rest := [.ref (r 35)]) S (c_mp_find l D cs h r g tf ta pf na ma wa cf9 ca ef ea xf xa z310 0  (show 0 ≤ z310.toInt from by first | exact rz310.1 | omega) (show z310.toInt < (tf 6).toInt from by first | exact oz_7fe81129bf rz310.2 | omega) (show (tf 6).toInt ≤ 2049 from by first | exact g3 | omega) (show 0 ≤ (0 : Int) from by first | exact oz_5a341f00aa | omega) (show 0 ≤ (cf9 33).toInt from by first | exact oz_e2fef14871 e15 g4 g5 | omega) htk (KnT.eq hkt (by omega)) _) hT (pr := []) (pcs := [wdP cs h r g tf ta pf na ma wa cf9 ca ef ea xf xa]) hw px_X.tt (px_recv hT hw 0 0 rfl rfl rfl) m12_181 m12_178 m12_180 ms_11_14 m1_21 q_Mpg_find ⟨Nat.le_of_ble_eq_true rfl, Nat.le_of_ble_eq_true rfl⟩ hl.1 rfl (Nat.le_of_ble_eq_true rfl) d_Mpg_checkPlace_77 ⟨Nat.le_of_ble_eq_true rfl, Nat.le_of_ble_eq_true rfl⟩) hw hA (fun v312 p311 H locs hp311 hw => ?_))
              obtain ⟨rfl, e313, e314, e315, e316, e317⟩ := hp311
              have e313 : -1 ≤ v312.toInt := e313
              have e314 : v312.toInt < (cf9 33).toInt := e314
              have e315 : 0 ≤ v312.toInt → (0 : Int) ≤ v312.toInt := e315
              have e316 : FndV ta ca (cf9 33).toInt z310 (0 : Int) v312.toInt := e316
              have hfd := e316
              have e317 : R_mp_find ta cf9 ca z310 (0 : Int32) v312 := e317
              have lv312 := Int32.le_toInt v312
              have uv312 := Int32.toInt_lt v312
              have hps := nm_pos (hnj (by omega)) (by omega) hfd ez310 (by omega)
              refine px_iald S hT hw 0 24 (n := 1100) (f := (ca 35)) rfl gp_35 (x := v312) (vp_in_iff.mpr (by constructor <;> omega)) d_Mpg_checkPlace_80 ?_
              refine lv_topi (fun z318 ez318 => ?_)
              have lz318 := Int32.le_toInt z318
              have uz318 := Int32.toInt_lt z318
              refine lv_iconst (v := 1) S.x S.b d_Mpg_checkPlace_81 (by decide) ?_
              refine lv_icmp_ne (tgt := 89) S.x S.b d_Mpg_checkPlace_82 (by decide) (fun c319 => ?_) (fun c319 => ?_)
              · have nc319 : ¬ z318.toInt = (1 : Int) := mt (i_eq (x := z318) (y := 1)).mpr c319
                refine lv_iconst (v := 0) S.x S.b d_Mpg_checkPlace_89 (by decide) ?_
                refine lv_istore_n (lv' := [(3, .int 0), (0, .ref h), (1, .int p0), (2, .int p1)]) S.x S.b d_Mpg_checkPlace_90 rfl hl (by decide) rfl (fun ls hl => ?_)
                refine lv_iload_n S.x S.b d_Mpg_checkPlace_91 rfl (lv_at hl 0 rfl) ?_
                refine lv_if_ne (tgt := 106) S.x S.b d_Mpg_checkPlace_92 (by decide) (fun c321 => ?_) (fun c321 => ?_)
                · exact absurd c321 (by decide)
                ·
                  refine lv_aload_n S.x S.b d_Mpg_checkPlace_95 rfl (lv_at hl 1 rfl) ?_
                  refine lv_bipush (v := 6) S.x S.b d_Mpg_checkPlace_96 (by decide) ?_
                  refine lv_aload_n S.x S.b d_Mpg_checkPlace_98 rfl (lv_at hl 1 rfl) ?_
                  refine lv_iload_n S.x S.b d_Mpg_checkPlace_99 rfl (lv_at hl 2 rfl) ?_
                  first | refine px_calli (pr := []) (px_runV (As := [.int p0]) (rest := [.int 6, .ref h]) S (c_mp_first l D cs h r g tf ta pf na ma wa cf9 ca ef ea xf xa p0  (show 0 ≤ p0.toInt from hrg.2.2) (show p0.toInt < (pf 13).toInt from (oz_7319c2f99d g1 hrg.2.1)) (show (pf 13).toInt ≤ 2100 from g2) htk (FsI.le (N' := (pf 13).toInt) hfs (by omega)) _) hT (pr := []) (pcs := [wdP cs h r g tf ta pf na ma wa cf9 ca ef ea xf xa]) hw px_X.tt (px_recv hT hw 0 0 rfl rfl rfl) m13_9 m13_6 m13_8 ms_12_15 m1_21 q_Mpg_first ⟨Nat.le_of_ble_eq_true rfl, Nat.le_of_ble_eq_true rfl⟩ hl.1 rfl (Nat.le_of_ble_eq_true rfl) d_Mpg_checkPlace_100 ⟨Nat.le_of_ble_eq_true rfl, Nat.le_of_ble_eq_true rfl⟩) hw hA (fun v323 p322 H locs hp322 hw => ?_) | (refine px_calli (pr := []) (px_runV (As := [.int p0]) (rest := [.int 6, .ref h]) S (c_mp_first l D cs h r g tf ta pf na ma wa cf9 ca ef ea xf xa p0  (show 0 ≤ p0.toInt from by first | exact hrg.2.2 | omega) (show p0.toInt < (pf 13).toInt from by first | exact oz_7319c2f99d g1 hrg.2.1 | omega) (show (pf 13).toInt ≤ 2100 from by first | exact g2 | omega) htk (FsI.le (N' := (pf 13).toInt) hfs (by omega)) _) hT (pr := []) (pcs := [wdP cs h r g tf ta pf na ma wa cf9 ca ef ea xf xa]) hw px_X.tt (px_recv hT hw 0 0 rfl rfl rfl) m13_9 m13_6 m13_8 ms_12_15 m1_21 q_Mpg_first ⟨Nat.le_of_ble_eq_true rfl, Nat.le_of_ble_eq_true rfl⟩ hl.1 rfl (Nat.le_of_ble_eq_true rfl) d_Mpg_checkPlace_100 ⟨Nat.le_of_ble_eq_true rfl, Nat.le_of_ble_eq_true rfl⟩) hw hA (fun v323 p322 H locs hp322 hw => ?_))
                  obtain ⟨rfl, e324, e325, e326⟩ := hp322
                  have e324 : 0 ≤ v323.toInt := e324
                  have e325 : v323.toInt < (tf 6).toInt := e325
                  have e326 : R_mp_first na p0 v323 := e326
                  have lv323 := Int32.le_toInt v323
                  have uv323 := Int32.toInt_lt v323
                  first | refine px_callv (pr := []) (px_runV (As := [.int 6, .int v323]) (rest := []) S (c_mp_bad l D cs h r g tf ta pf na ma wa ca ef ea xf xa cf9 6 v323  (show 1 ≤ (6 : Int) from oz_2c1e0e66aa) (show 0 ≤ v323.toInt from e324) (show v323.toInt < (tf 6).toInt from e325) htk hwr _) hT (pr := []) (pcs := [wdP cs h r g tf ta pf na ma wa cf9 ca ef ea xf xa]) hw px_X.tt (px_recv hT hw 0 0 rfl rfl rfl) m12_173 m12_170 m12_172 ms_11_12 m1_21 q_Mpg_bad ⟨Nat.le_of_ble_eq_true rfl, Nat.le_of_ble_eq_true rfl⟩ hl.1 rfl (Nat.le_of_ble_eq_true rfl) d_Mpg_checkPlace_103 ⟨Nat.le_of_ble_eq_true rfl, Nat.le_of_ble_eq_true rfl⟩) hw hA (fun p329 H locs hp329 hw => ?_) | (refine px_callv (pr := []) (px_runV (As := [.int 6, .int v323]) (rest := []) S (c_mp_bad l D cs h r g tf ta pf na ma wa ca ef ea xf xa cf9 6 v323  (show 1 ≤ (6 : Int) from by first | exact oz_2c1e0e66aa | omega) (show 0 ≤ v323.toInt from by first | exact e324 | omega) (show v323.toInt < (tf 6).toInt from by first | exact e325 | omega) htk hwr _) hT (pr := []) (pcs := [wdP cs h r g tf ta pf na ma wa cf9 ca ef ea xf xa]) hw px_X.tt (px_recv hT hw 0 0 rfl rfl rfl) m12_173 m12_170 m12_172 ms_11_12 m1_21 q_Mpg_bad ⟨Nat.le_of_ble_eq_true rfl, Nat.le_of_ble_eq_true rfl⟩ hl.1 rfl (Nat.le_of_ble_eq_true rfl) d_Mpg_checkPlace_103 ⟨Nat.le_of_ble_eq_true rfl, Nat.le_of_ble_eq_true rfl⟩) hw hA (fun p329 H locs hp329 hw => ?_))
                  obtain ⟨cf328, rfl, e331, e332, e333, e334, e335, e336, e337, e338, e339, e340, e341, e342, e343, e344, e345, e346, e347, e348, e349, e350⟩ := hp329
                  have e331 : KpE cf9 cf328 := e331
                  have hke := (hke).tr e331
                  have hkz_e331 := e331.2
                  have e332 : WrV cf328 (tf 6).toInt := e332
                  have hwr := e332
                  have hw0_e332 := hwr.1
                  have e333 : 1 ≤ (cf328 30).toInt := e333
                  have e334 : (cf328 33).toInt = (cf9 33).toInt := e334
                  have e335 : (cf328 38).toInt = (cf9 38).toInt := e335
                  have e336 : (cf328 48).toInt = (cf9 48).toInt := e336
                  have e337 : (cf328 46).toInt = (cf9 46).toInt := e337
                  have e338 : (cf328 47).toInt = (cf9 47).toInt := e338
                  have e339 : (cf328 57).toInt = (cf9 57).toInt := e339
                  have e340 : (cf328 37).toInt = (cf9 37).toInt := e340
                  have e341 : (cf328 42).toInt = (cf9 42).toInt := e341
                  have e342 : (cf328 43).toInt = (cf9 43).toInt := e342
                  have e343 : (cf328 44).toInt = (cf9 44).toInt := e343
                  have e344 : (cf328 45).toInt = (cf9 45).toInt := e344
                  have e345 : (cf328 54).toInt = (cf9 54).toInt := e345
                  have e346 : (cf328 55).toInt = (cf9 55).toInt := e346
                  have e347 : (cf328 58).toInt = (cf9 58).toInt := e347
                  have e348 : (cf328 59).toInt = (cf9 59).toInt := e348
                  have e349 : (cf328 41).toInt = (cf9 41).toInt := e349
                  have e350 : R_mp_bad (6 : Int32) v323 cf9 cf328 := e350
                  first | exact px_vret S hr hlk hAe hw (Nat.le_of_ble_eq_true rfl) (Nat.le_of_ble_eq_true rfl) (⟨cf328, rfl, (show KpE cf cf328 from hke), (show WrV cf328 (tf 6).toInt from hwr), (show (cf328 33).toInt = (cf 33).toInt from (oz_1687f4cc65 e15 e334)), (show (cf328 38).toInt = (cf 38).toInt from (oz_1687f4cc65 e16 e335)), (show (cf328 48).toInt = (cf 48).toInt from (oz_1687f4cc65 e17 e336)), (show (cf328 46).toInt = (cf 46).toInt from (oz_1687f4cc65 e18 e337)), (show (cf328 47).toInt = (cf 47).toInt from (oz_1687f4cc65 e19 e338)), (show (cf328 57).toInt = (cf 57).toInt from (oz_1687f4cc65 e20 e339)), (show ZPl cf328 na ma p0 p1.toInt from (zr_no (by omega))), (show R_mp_checkPlace ta na ca p0 p1 cf cf328 from (Or.inl (Or.inl ⟨nc1, v4, e7, cf9, e31, z32, ez32, Or.inr ⟨nc33, z84, ez84, Or.inr ⟨nc85, Or.inr ⟨nc194, z303, ez303, Or.inr ⟨nc304, Or.inr ⟨nc307, z310, ez310, v312, e317, z318, ez318, Or.inl ⟨nc319, v323, e326, cf328, e350, rfl⟩⟩⟩⟩⟩⟩⟩)))⟩) d_Mpg_checkPlace_106 | (exact px_vret S hr hlk hAe hw (Nat.le_of_ble_eq_true rfl) (Nat.le_of_ble_eq_true rfl) (⟨cf328, rfl, (show KpE cf cf328 from hke), (show WrV cf328 (tf 6).toInt from hwr), (show (cf328 33).toInt = (cf 33).toInt from by first | exact oz_1687f4cc65 e15 e334 | omega), (show (cf328 38).toInt = (cf 38).toInt from by first | exact oz_1687f4cc65 e16 e335 | omega), (show (cf328 48).toInt = (cf 48).toInt from by first | exact oz_1687f4cc65 e17 e336 | omega), (show (cf328 46).toInt = (cf 46).toInt from by first | exact oz_1687f4cc65 e18 e337 | omega), (show (cf328 47).toInt = (cf 47).toInt from by first | exact oz_1687f4cc65 e19 e338 | omega), (show (cf328 57).toInt = (cf 57).toInt from by first | exact oz_1687f4cc65 e20 e339 | omega), (show ZPl cf328 na ma p0 p1.toInt from (zr_no (by omega))), (show R_mp_checkPlace ta na ca p0 p1 cf cf328 from (Or.inl (Or.inl ⟨nc1, v4, e7, cf9, e31, z32, ez32, Or.inr ⟨nc33, z84, ez84, Or.inr ⟨nc85, Or.inr ⟨nc194, z303, ez303, Or.inr ⟨nc304, Or.inr ⟨nc307, z310, ez310, v312, e317, z318, ez318, Or.inl ⟨nc319, v323, e326, cf328, e350, rfl⟩⟩⟩⟩⟩⟩⟩)))⟩) d_Mpg_checkPlace_106)
              · have nc319 : z318.toInt = (1 : Int) := (i_eq (x := z318) (y := 1)).mp c319
                refine lv_iconst (v := 1) S.x S.b d_Mpg_checkPlace_85 (by decide) ?_
                refine lv_goto (tgt := 90) S.x S.b d_Mpg_checkPlace_86 (by decide) ?_
                refine lv_istore_n (lv' := [(3, .int 1), (0, .ref h), (1, .int p0), (2, .int p1)]) S.x S.b d_Mpg_checkPlace_90 rfl hl (by decide) rfl (fun ls hl => ?_)
                refine lv_iload_n S.x S.b d_Mpg_checkPlace_91 rfl (lv_at hl 0 rfl) ?_
                refine lv_if_ne (tgt := 106) S.x S.b d_Mpg_checkPlace_92 (by decide) (fun c351 => ?_) (fun c351 => ?_)
                ·
                  first | exact px_vret S hr hlk hAe hw (Nat.le_of_ble_eq_true rfl) (Nat.le_of_ble_eq_true rfl) (⟨cf9, rfl, (show KpE cf cf9 from hke), (show WrV cf9 (tf 6).toInt from hwr), (show (cf9 33).toInt = (cf 33).toInt from e15), (show (cf9 38).toInt = (cf 38).toInt from e16), (show (cf9 48).toInt = (cf 48).toInt from e17), (show (cf9 46).toInt = (cf 46).toInt from e18), (show (cf9 47).toInt = (cf 47).toInt from e19), (show (cf9 57).toInt = (cf 57).toInt from e20), (show ZPl cf9 na ma p0 p1.toInt from (zr_no (by omega))), (show R_mp_checkPlace ta na ca p0 p1 cf cf9 from (Or.inl (Or.inl ⟨nc1, v4, e7, cf9, e31, z32, ez32, Or.inr ⟨nc33, z84, ez84, Or.inr ⟨nc85, Or.inr ⟨nc194, z303, ez303, Or.inr ⟨nc304, Or.inr ⟨nc307, z310, ez310, v312, e317, z318, ez318, Or.inr ⟨nc319, rfl⟩⟩⟩⟩⟩⟩⟩)))⟩) d_Mpg_checkPlace_106 | (exact px_vret S hr hlk hAe hw (Nat.le_of_ble_eq_true rfl) (Nat.le_of_ble_eq_true rfl) (⟨cf9, rfl, (show KpE cf cf9 from hke), (show WrV cf9 (tf 6).toInt from hwr), (show (cf9 33).toInt = (cf 33).toInt from by first | exact e15 | omega), (show (cf9 38).toInt = (cf 38).toInt from by first | exact e16 | omega), (show (cf9 48).toInt = (cf 48).toInt from by first | exact e17 | omega), (show (cf9 46).toInt = (cf 46).toInt from by first | exact e18 | omega), (show (cf9 47).toInt = (cf 47).toInt from by first | exact e19 | omega), (show (cf9 57).toInt = (cf 57).toInt from by first | exact e20 | omega), (show ZPl cf9 na ma p0 p1.toInt from (zr_no (by omega))), (show R_mp_checkPlace ta na ca p0 p1 cf cf9 from (Or.inl (Or.inl ⟨nc1, v4, e7, cf9, e31, z32, ez32, Or.inr ⟨nc33, z84, ez84, Or.inr ⟨nc85, Or.inr ⟨nc194, z303, ez303, Or.inr ⟨nc304, Or.inr ⟨nc307, z310, ez310, v312, e317, z318, ez318, Or.inr ⟨nc319, rfl⟩⟩⟩⟩⟩⟩⟩)))⟩) d_Mpg_checkPlace_106)
                · exact absurd c351 (by decide)
  · have nc1 : ¬ p1.toInt = (2 : Int) := mt (i_eq (x := p1) (y := 2)).mpr c1
    refine lv_iload_n S.x S.b d_Mpg_checkPlace_5 rfl (lv_at hl 2 rfl) ?_
    refine lv_iconst (v := 3) S.x S.b d_Mpg_checkPlace_6 (by decide) ?_
    refine lv_icmp_ne (tgt := 20) S.x S.b d_Mpg_checkPlace_7 (by decide) (fun c352 => ?_) (fun c352 => ?_)
    · have nc352 : ¬ p1.toInt = (3 : Int) := mt (i_eq (x := p1) (y := 3)).mpr c352
      refine lv_aload_n S.x S.b d_Mpg_checkPlace_20 rfl (lv_at hl 0 rfl) ?_
      refine gP_14 S hT hw 0 rfl m9_238 d_Mpg_checkPlace_21 ?_
      refine lv_iload_n S.x S.b d_Mpg_checkPlace_24 rfl (lv_at hl 1 rfl) ?_
      refine px_bald S hT hw 0 10 (n := 2100) (f := (na 14)) rfl gp_14 (x := p0) (vp_in_iff.mpr (by first | exact oz_a7e05de1cd hrg.2.2 hrg.2.1 g1 g2 | (constructor <;> omega))) d_Mpg_checkPlace_25 ?_
      refine lv_topi (fun z354 ez354 => ?_)
      have lz354 := Int32.le_toInt z354
      have uz354 := Int32.toInt_lt z354
      have rz354 := EcV.kd hec_p0 ez354
      refine lv_iconst (v := 4) S.x S.b d_Mpg_checkPlace_26 (by decide) ?_
      refine lv_icmp_eq (tgt := 44) S.x S.b d_Mpg_checkPlace_27 (by decide) (fun c355 => ?_) (fun c355 => ?_)
      · have nc355 : z354.toInt = (4 : Int) := (i_eq (x := z354) (y := 4)).mp c355
        refine lv_iconst (v := 1) S.x S.b d_Mpg_checkPlace_44 (by decide) ?_
        refine lv_goto (tgt := 49) S.x S.b d_Mpg_checkPlace_45 (by decide) ?_
        refine lv_istore_n (lv' := [(3, .int 1), (0, .ref h), (1, .int p0), (2, .int p1)]) S.x S.b d_Mpg_checkPlace_49 rfl hl (by decide) rfl (fun ls hl => ?_)
        refine lv_aload_n S.x S.b d_Mpg_checkPlace_50 rfl (lv_at hl 1 rfl) ?_
        refine gP_14 S hT hw 0 rfl m9_238 d_Mpg_checkPlace_51 ?_
        refine lv_iload_n S.x S.b d_Mpg_checkPlace_54 rfl (lv_at hl 2 rfl) ?_
        refine px_bald S hT hw 0 10 (n := 2100) (f := (na 14)) rfl gp_14 (x := p0) (vp_in_iff.mpr (by first | exact oz_a7e05de1cd hrg.2.2 hrg.2.1 g1 g2 | (constructor <;> omega))) d_Mpg_checkPlace_55 ?_
        refine lv_topi (fun z357 ez357 => ?_)
        have lz357 := Int32.le_toInt z357
        have uz357 := Int32.toInt_lt z357
        have rz357 := EcV.kd hec_p0 ez357
        refine lv_iconst (v := 2) S.x S.b d_Mpg_checkPlace_56 (by decide) ?_
        refine lv_icmp_ne (tgt := 91) S.x S.b d_Mpg_checkPlace_57 (by decide) (fun c358 => ?_) (fun c358 => ?_)
        · have nc358 : ¬ z357.toInt = (2 : Int) := mt (i_eq (x := z357) (y := 2)).mpr c358
          refine lv_iload_n S.x S.b d_Mpg_checkPlace_91 rfl (lv_at hl 0 rfl) ?_
          refine lv_if_ne (tgt := 106) S.x S.b d_Mpg_checkPlace_92 (by decide) (fun c360 => ?_) (fun c360 => ?_)
          ·
            exact px_vret S hr hlk hAe hw (Nat.le_of_ble_eq_true rfl) (Nat.le_of_ble_eq_true rfl) (⟨cf, rfl, (show KpE cf cf from hke), (show WrV cf (tf 6).toInt from hwr), (show (cf 33).toInt = (cf 33).toInt from rfl), (show (cf 38).toInt = (cf 38).toInt from rfl), (show (cf 48).toInt = (cf 48).toInt from rfl), (show (cf 46).toInt = (cf 46).toInt from rfl), (show (cf 47).toInt = (cf 47).toInt from rfl), (show (cf 57).toInt = (cf 57).toInt from rfl), (show ZPl cf na ma p0 p1.toInt from (fun _ => ⟨⟨by omega, by omega⟩, (by first | exact Or.inl (by omega) | exact Or.inr ⟨by omega, Or.inl (by omega)⟩ | exact Or.inr ⟨by omega, Or.inr ⟨by omega, nm_pl (hnj (by omega)) (by omega) hfd ez310 (by omega) hks (by omega) ez318 (by omega)⟩⟩)⟩)), (show R_mp_checkPlace ta na ca p0 p1 cf cf from (Or.inl (Or.inr ⟨nc1, Or.inl ⟨nc352, z354, ez354, Or.inl ⟨nc355, z357, ez357, Or.inl ⟨nc358, rfl⟩⟩⟩⟩)))⟩) d_Mpg_checkPlace_106
          · exact absurd c360 (by decide)
        · have nc358 : z357.toInt = (2 : Int) := (i_eq (x := z357) (y := 2)).mp c358
          refine lv_iload_n S.x S.b d_Mpg_checkPlace_60 rfl (lv_at hl 3 rfl) ?_
          refine lv_iconst (v := 1) S.x S.b d_Mpg_checkPlace_61 (by decide) ?_
          refine lv_icmp_ne (tgt := 91) S.x S.b d_Mpg_checkPlace_62 (by decide) (fun c361 => ?_) (fun c361 => ?_)
          · have nc361 : ¬ p1.toInt = (1 : Int) := mt (i_eq (x := p1) (y := 1)).mpr c361
            refine lv_iload_n S.x S.b d_Mpg_checkPlace_91 rfl (lv_at hl 0 rfl) ?_
            refine lv_if_ne (tgt := 106) S.x S.b d_Mpg_checkPlace_92 (by decide) (fun c363 => ?_) (fun c363 => ?_)
            ·
              exact px_vret S hr hlk hAe hw (Nat.le_of_ble_eq_true rfl) (Nat.le_of_ble_eq_true rfl) (⟨cf, rfl, (show KpE cf cf from hke), (show WrV cf (tf 6).toInt from hwr), (show (cf 33).toInt = (cf 33).toInt from rfl), (show (cf 38).toInt = (cf 38).toInt from rfl), (show (cf 48).toInt = (cf 48).toInt from rfl), (show (cf 46).toInt = (cf 46).toInt from rfl), (show (cf 47).toInt = (cf 47).toInt from rfl), (show (cf 57).toInt = (cf 57).toInt from rfl), (show ZPl cf na ma p0 p1.toInt from (fun _ => ⟨⟨by omega, by omega⟩, (by first | exact Or.inl (by omega) | exact Or.inr ⟨by omega, Or.inl (by omega)⟩ | exact Or.inr ⟨by omega, Or.inr ⟨by omega, nm_pl (hnj (by omega)) (by omega) hfd ez310 (by omega) hks (by omega) ez318 (by omega)⟩⟩)⟩)), (show R_mp_checkPlace ta na ca p0 p1 cf cf from (Or.inl (Or.inr ⟨nc1, Or.inl ⟨nc352, z354, ez354, Or.inl ⟨nc355, z357, ez357, Or.inr ⟨nc358, Or.inl ⟨nc361, rfl⟩⟩⟩⟩⟩)))⟩) d_Mpg_checkPlace_106
            · exact absurd c363 (by decide)
          · have nc361 : p1.toInt = (1 : Int) := (i_eq (x := p1) (y := 1)).mp c361
            refine lv_aload_n S.x S.b d_Mpg_checkPlace_65 rfl (lv_at hl 1 rfl) ?_
            refine gP_35 S hT hw 0 rfl m10_24 d_Mpg_checkPlace_66 ?_
            refine lv_aload_n S.x S.b d_Mpg_checkPlace_69 rfl (lv_at hl 1 rfl) ?_
            refine lv_aload_n S.x S.b d_Mpg_checkPlace_70 rfl (lv_at hl 1 rfl) ?_
            refine gP_15 S hT hw 0 rfl m9_239 d_Mpg_checkPlace_71 ?_
            refine lv_iload_n S.x S.b d_Mpg_checkPlace_74 rfl (lv_at hl 2 rfl) ?_
            refine px_iald S hT hw 0 11 (n := 2100) (f := (na 15)) rfl gp_15 (x := p0) (vp_in_iff.mpr (by first | exact oz_a7e05de1cd hrg.2.2 hrg.2.1 g1 g2 | (constructor <;> omega))) d_Mpg_checkPlace_75 ?_
            refine lv_topi (fun z364 ez364 => ?_)
            have lz364 := Int32.le_toInt z364
            have uz364 := Int32.toInt_lt z364
            have rz364 := EcV.tok hec_p0 ez364
            refine lv_iconst (v := 0) S.x S.b d_Mpg_checkPlace_76 (by decide) ?_
            first | refine px_calli (pr := []) (px_runV (As := [.int z364, .int 0]) (rest := [.ref (r 35)]) S (c_mp_find l D cs h r g tf ta pf na ma wa cf ca ef ea xf xa z364 0  (show 0 ≤ z364.toInt from rz364.1) (show z364.toInt < (tf 6).toInt from (oz_7fe81129bf rz364.2)) (show (tf 6).toInt ≤ 2049 from g3) (show 0 ≤ (0 : Int) from oz_5a341f00aa) (show 0 ≤ (cf 33).toInt from (oz_f3ebed1ad0 g4 g5)) htk (KnT.eq hkt (by omega)) _) hT (pr := []) (pcs := [wdP cs h r g tf ta pf na ma wa cf ca ef ea xf xa]) hw px_X.tt (px_recv hT hw 0 0 rfl rfl rfl) m12_181 m12_178 m12_180 ms_11_14 m1_21 q_Mpg_find ⟨Nat.le_of_ble_eq_true rfl, Nat.le_of_ble_eq_true rfl⟩ hl.1 rfl (Nat.le_of_ble_eq_true rfl) d_Mpg_checkPlace_77 ⟨Nat.le_of_ble_eq_true rfl, Nat.le_of_ble_eq_true rfl⟩) hw hA (fun v366 p365 H locs hp365 hw => ?_) | (refine px_calli (pr := []) (px_runV (As := [.int z364, .int 0]) (rest := [.ref (r 35)]) S (c_mp_find l D cs h r g tf ta pf na ma wa cf ca ef ea xf xa z364 0  (show 0 ≤ z364.toInt from by first | exact rz364.1 | omega) (show z364.toInt < (tf 6).toInt from by first | exact oz_7fe81129bf rz364.2 | omega) (show (tf 6).toInt ≤ 2049 from by first | exact g3 | omega) (show 0 ≤ (0 : Int) from by first | exact oz_5a341f00aa | omega) (show 0 ≤ (cf 33).toInt from by first | exact oz_f3ebed1ad0 g4 g5 | omega) htk (KnT.eq hkt (by omega)) _) hT (pr := []) (pcs := [wdP cs h r g tf ta pf na ma wa cf ca ef ea xf xa]) hw px_X.tt (px_recv hT hw 0 0 rfl rfl rfl) m12_181 m12_178 m12_180 ms_11_14 m1_21 q_Mpg_find ⟨Nat.le_of_ble_eq_true rfl, Nat.le_of_ble_eq_true rfl⟩ hl.1 rfl (Nat.le_of_ble_eq_true rfl) d_Mpg_checkPlace_77 ⟨Nat.le_of_ble_eq_true rfl, Nat.le_of_ble_eq_true rfl⟩) hw hA (fun v366 p365 H locs hp365 hw => ?_))
            obtain ⟨rfl, e367, e368, e369, e370, e371⟩ := hp365
            have e367 : -1 ≤ v366.toInt := e367
            have e368 : v366.toInt < (cf 33).toInt := e368
            have e369 : 0 ≤ v366.toInt → (0 : Int) ≤ v366.toInt := e369
            have e370 : FndV ta ca (cf 33).toInt z364 (0 : Int) v366.toInt := e370
            have hfd := e370
            have e371 : R_mp_find ta cf ca z364 (0 : Int32) v366 := e371
            have lv366 := Int32.le_toInt v366
            have uv366 := Int32.toInt_lt v366
            have hps := nm_pos (hnj (by omega)) (by omega) hfd ez364 (by omega)
            refine px_iald S hT hw 0 24 (n := 1100) (f := (ca 35)) rfl gp_35 (x := v366) (vp_in_iff.mpr (by constructor <;> omega)) d_Mpg_checkPlace_80 ?_
            refine lv_topi (fun z372 ez372 => ?_)
            have lz372 := Int32.le_toInt z372
            have uz372 := Int32.toInt_lt z372
            refine lv_iconst (v := 1) S.x S.b d_Mpg_checkPlace_81 (by decide) ?_
            refine lv_icmp_ne (tgt := 89) S.x S.b d_Mpg_checkPlace_82 (by decide) (fun c373 => ?_) (fun c373 => ?_)
            · have nc373 : ¬ z372.toInt = (1 : Int) := mt (i_eq (x := z372) (y := 1)).mpr c373
              refine lv_iconst (v := 0) S.x S.b d_Mpg_checkPlace_89 (by decide) ?_
              refine lv_istore_n (lv' := [(3, .int 0), (0, .ref h), (1, .int p0), (2, .int p1)]) S.x S.b d_Mpg_checkPlace_90 rfl hl (by decide) rfl (fun ls hl => ?_)
              refine lv_iload_n S.x S.b d_Mpg_checkPlace_91 rfl (lv_at hl 0 rfl) ?_
              refine lv_if_ne (tgt := 106) S.x S.b d_Mpg_checkPlace_92 (by decide) (fun c375 => ?_) (fun c375 => ?_)
              · exact absurd c375 (by decide)
              ·
                refine lv_aload_n S.x S.b d_Mpg_checkPlace_95 rfl (lv_at hl 1 rfl) ?_
                refine lv_bipush (v := 6) S.x S.b d_Mpg_checkPlace_96 (by decide) ?_
                refine lv_aload_n S.x S.b d_Mpg_checkPlace_98 rfl (lv_at hl 1 rfl) ?_
                refine lv_iload_n S.x S.b d_Mpg_checkPlace_99 rfl (lv_at hl 2 rfl) ?_
                first | refine px_calli (pr := []) (px_runV (As := [.int p0]) (rest := [.int 6, .ref h]) S (c_mp_first l D cs h r g tf ta pf na ma wa cf ca ef ea xf xa p0  (show 0 ≤ p0.toInt from hrg.2.2) (show p0.toInt < (pf 13).toInt from (oz_7319c2f99d g1 hrg.2.1)) (show (pf 13).toInt ≤ 2100 from g2) htk (FsI.le (N' := (pf 13).toInt) hfs (by omega)) _) hT (pr := []) (pcs := [wdP cs h r g tf ta pf na ma wa cf ca ef ea xf xa]) hw px_X.tt (px_recv hT hw 0 0 rfl rfl rfl) m13_9 m13_6 m13_8 ms_12_15 m1_21 q_Mpg_first ⟨Nat.le_of_ble_eq_true rfl, Nat.le_of_ble_eq_true rfl⟩ hl.1 rfl (Nat.le_of_ble_eq_true rfl) d_Mpg_checkPlace_100 ⟨Nat.le_of_ble_eq_true rfl, Nat.le_of_ble_eq_true rfl⟩) hw hA (fun v377 p376 H locs hp376 hw => ?_) | (refine px_calli (pr := []) (px_runV (As := [.int p0]) (rest := [.int 6, .ref h]) S (c_mp_first l D cs h r g tf ta pf na ma wa cf ca ef ea xf xa p0  (show 0 ≤ p0.toInt from by first | exact hrg.2.2 | omega) (show p0.toInt < (pf 13).toInt from by first | exact oz_7319c2f99d g1 hrg.2.1 | omega) (show (pf 13).toInt ≤ 2100 from by first | exact g2 | omega) htk (FsI.le (N' := (pf 13).toInt) hfs (by omega)) _) hT (pr := []) (pcs := [wdP cs h r g tf ta pf na ma wa cf ca ef ea xf xa]) hw px_X.tt (px_recv hT hw 0 0 rfl rfl rfl) m13_9 m13_6 m13_8 ms_12_15 m1_21 q_Mpg_first ⟨Nat.le_of_ble_eq_true rfl, Nat.le_of_ble_eq_true rfl⟩ hl.1 rfl (Nat.le_of_ble_eq_true rfl) d_Mpg_checkPlace_100 ⟨Nat.le_of_ble_eq_true rfl, Nat.le_of_ble_eq_true rfl⟩) hw hA (fun v377 p376 H locs hp376 hw => ?_))
                obtain ⟨rfl, e378, e379, e380⟩ := hp376
                have e378 : 0 ≤ v377.toInt := e378
                have e379 : v377.toInt < (tf 6).toInt := e379
                have e380 : R_mp_first na p0 v377 := e380
                have lv377 := Int32.le_toInt v377
                have uv377 := Int32.toInt_lt v377
                first | refine px_callv (pr := []) (px_runV (As := [.int 6, .int v377]) (rest := []) S (c_mp_bad l D cs h r g tf ta pf na ma wa ca ef ea xf xa cf 6 v377  (show 1 ≤ (6 : Int) from oz_2c1e0e66aa) (show 0 ≤ v377.toInt from e378) (show v377.toInt < (tf 6).toInt from e379) htk hwr _) hT (pr := []) (pcs := [wdP cs h r g tf ta pf na ma wa cf ca ef ea xf xa]) hw px_X.tt (px_recv hT hw 0 0 rfl rfl rfl) m12_173 m12_170 m12_172 ms_11_12 m1_21 q_Mpg_bad ⟨Nat.le_of_ble_eq_true rfl, Nat.le_of_ble_eq_true rfl⟩ hl.1 rfl (Nat.le_of_ble_eq_true rfl) d_Mpg_checkPlace_103 ⟨Nat.le_of_ble_eq_true rfl, Nat.le_of_ble_eq_true rfl⟩) hw hA (fun p383 H locs hp383 hw => ?_) | (refine px_callv (pr := []) (px_runV (As := [.int 6, .int v377]) (rest := []) S (c_mp_bad l D cs h r g tf ta pf na ma wa ca ef ea xf xa cf 6 v377  (show 1 ≤ (6 : Int) from by first | exact oz_2c1e0e66aa | omega) (show 0 ≤ v377.toInt from by first | exact e378 | omega) (show v377.toInt < (tf 6).toInt from by first | exact e379 | omega) htk hwr _) hT (pr := []) (pcs := [wdP cs h r g tf ta pf na ma wa cf ca ef ea xf xa]) hw px_X.tt (px_recv hT hw 0 0 rfl rfl rfl) m12_173 m12_170 m12_172 ms_11_12 m1_21 q_Mpg_bad ⟨Nat.le_of_ble_eq_true rfl, Nat.le_of_ble_eq_true rfl⟩ hl.1 rfl (Nat.le_of_ble_eq_true rfl) d_Mpg_checkPlace_103 ⟨Nat.le_of_ble_eq_true rfl, Nat.le_of_ble_eq_true rfl⟩) hw hA (fun p383 H locs hp383 hw => ?_))
                obtain ⟨cf382, rfl, e385, e386, e387, e388, e389, e390, e391, e392, e393, e394, e395, e396, e397, e398, e399, e400, e401, e402, e403, e404⟩ := hp383
                have e385 : KpE cf cf382 := e385
                have hke := (hke).tr e385
                have hkz_e385 := e385.2
                have e386 : WrV cf382 (tf 6).toInt := e386
                have hwr := e386
                have hw0_e386 := hwr.1
                have e387 : 1 ≤ (cf382 30).toInt := e387
                have e388 : (cf382 33).toInt = (cf 33).toInt := e388
                have e389 : (cf382 38).toInt = (cf 38).toInt := e389
                have e390 : (cf382 48).toInt = (cf 48).toInt := e390
                have e391 : (cf382 46).toInt = (cf 46).toInt := e391
                have e392 : (cf382 47).toInt = (cf 47).toInt := e392
                have e393 : (cf382 57).toInt = (cf 57).toInt := e393
                have e394 : (cf382 37).toInt = (cf 37).toInt := e394
                have e395 : (cf382 42).toInt = (cf 42).toInt := e395
                have e396 : (cf382 43).toInt = (cf 43).toInt := e396
                have e397 : (cf382 44).toInt = (cf 44).toInt := e397
                have e398 : (cf382 45).toInt = (cf 45).toInt := e398
                have e399 : (cf382 54).toInt = (cf 54).toInt := e399
                have e400 : (cf382 55).toInt = (cf 55).toInt := e400
                have e401 : (cf382 58).toInt = (cf 58).toInt := e401
                have e402 : (cf382 59).toInt = (cf 59).toInt := e402
                have e403 : (cf382 41).toInt = (cf 41).toInt := e403
                have e404 : R_mp_bad (6 : Int32) v377 cf cf382 := e404
                first | exact px_vret S hr hlk hAe hw (Nat.le_of_ble_eq_true rfl) (Nat.le_of_ble_eq_true rfl) (⟨cf382, rfl, (show KpE cf cf382 from hke), (show WrV cf382 (tf 6).toInt from hwr), (show (cf382 33).toInt = (cf 33).toInt from e388), (show (cf382 38).toInt = (cf 38).toInt from e389), (show (cf382 48).toInt = (cf 48).toInt from e390), (show (cf382 46).toInt = (cf 46).toInt from e391), (show (cf382 47).toInt = (cf 47).toInt from e392), (show (cf382 57).toInt = (cf 57).toInt from e393), (show ZPl cf382 na ma p0 p1.toInt from (zr_no (by omega))), (show R_mp_checkPlace ta na ca p0 p1 cf cf382 from (Or.inl (Or.inr ⟨nc1, Or.inl ⟨nc352, z354, ez354, Or.inl ⟨nc355, z357, ez357, Or.inr ⟨nc358, Or.inr ⟨nc361, z364, ez364, v366, e371, z372, ez372, Or.inl ⟨nc373, v377, e380, cf382, e404, rfl⟩⟩⟩⟩⟩⟩)))⟩) d_Mpg_checkPlace_106 | (exact px_vret S hr hlk hAe hw (Nat.le_of_ble_eq_true rfl) (Nat.le_of_ble_eq_true rfl) (⟨cf382, rfl, (show KpE cf cf382 from hke), (show WrV cf382 (tf 6).toInt from hwr), (show (cf382 33).toInt = (cf 33).toInt from by first | exact e388 | omega), (show (cf382 38).toInt = (cf 38).toInt from by first | exact e389 | omega), (show (cf382 48).toInt = (cf 48).toInt from by first | exact e390 | omega), (show (cf382 46).toInt = (cf 46).toInt from by first | exact e391 | omega), (show (cf382 47).toInt = (cf 47).toInt from by first | exact e392 | omega), (show (cf382 57).toInt = (cf 57).toInt from by first | exact e393 | omega), (show ZPl cf382 na ma p0 p1.toInt from (zr_no (by omega))), (show R_mp_checkPlace ta na ca p0 p1 cf cf382 from (Or.inl (Or.inr ⟨nc1, Or.inl ⟨nc352, z354, ez354, Or.inl ⟨nc355, z357, ez357, Or.inr ⟨nc358, Or.inr ⟨nc361, z364, ez364, v366, e371, z372, ez372, Or.inl ⟨nc373, v377, e380, cf382, e404, rfl⟩⟩⟩⟩⟩⟩)))⟩) d_Mpg_checkPlace_106)
            · have nc373 : z372.toInt = (1 : Int) := (i_eq (x := z372) (y := 1)).mp c373
              refine lv_iconst (v := 1) S.x S.b d_Mpg_checkPlace_85 (by decide) ?_
              refine lv_goto (tgt := 90) S.x S.b d_Mpg_checkPlace_86 (by decide) ?_
              refine lv_istore_n (lv' := [(3, .int 1), (0, .ref h), (1, .int p0), (2, .int p1)]) S.x S.b d_Mpg_checkPlace_90 rfl hl (by decide) rfl (fun ls hl => ?_)
              refine lv_iload_n S.x S.b d_Mpg_checkPlace_91 rfl (lv_at hl 0 rfl) ?_
              refine lv_if_ne (tgt := 106) S.x S.b d_Mpg_checkPlace_92 (by decide) (fun c405 => ?_) (fun c405 => ?_)
              ·
                exact px_vret S hr hlk hAe hw (Nat.le_of_ble_eq_true rfl) (Nat.le_of_ble_eq_true rfl) (⟨cf, rfl, (show KpE cf cf from hke), (show WrV cf (tf 6).toInt from hwr), (show (cf 33).toInt = (cf 33).toInt from rfl), (show (cf 38).toInt = (cf 38).toInt from rfl), (show (cf 48).toInt = (cf 48).toInt from rfl), (show (cf 46).toInt = (cf 46).toInt from rfl), (show (cf 47).toInt = (cf 47).toInt from rfl), (show (cf 57).toInt = (cf 57).toInt from rfl), (show ZPl cf na ma p0 p1.toInt from (fun _ => ⟨⟨by omega, by omega⟩, (by first | exact Or.inl (by omega) | exact Or.inr ⟨by omega, Or.inl (by omega)⟩ | exact Or.inr ⟨by omega, Or.inr ⟨by omega, nm_pl (hnj (by omega)) (by omega) hfd ez364 (by omega) hks (by omega) ez372 (by omega)⟩⟩)⟩)), (show R_mp_checkPlace ta na ca p0 p1 cf cf from (Or.inl (Or.inr ⟨nc1, Or.inl ⟨nc352, z354, ez354, Or.inl ⟨nc355, z357, ez357, Or.inr ⟨nc358, Or.inr ⟨nc361, z364, ez364, v366, e371, z372, ez372, Or.inr ⟨nc373, rfl⟩⟩⟩⟩⟩⟩)))⟩) d_Mpg_checkPlace_106
              · exact absurd c405 (by decide)
      · have nc355 : ¬ z354.toInt = (4 : Int) := mt (i_eq (x := z354) (y := 4)).mpr c355
        refine lv_aload_n S.x S.b d_Mpg_checkPlace_30 rfl (lv_at hl 0 rfl) ?_
        refine gP_14 S hT hw 0 rfl m9_238 d_Mpg_checkPlace_31 ?_
        refine lv_iload_n S.x S.b d_Mpg_checkPlace_34 rfl (lv_at hl 1 rfl) ?_
        refine px_bald S hT hw 0 10 (n := 2100) (f := (na 14)) rfl gp_14 (x := p0) (vp_in_iff.mpr (by first | exact oz_a7e05de1cd hrg.2.2 hrg.2.1 g1 g2 | (constructor <;> omega))) d_Mpg_checkPlace_35 ?_
        refine lv_topi (fun z406 ez406 => ?_)
        have lz406 := Int32.le_toInt z406
        have uz406 := Int32.toInt_lt z406
        have rz406 := EcV.kd hec_p0 ez406
        refine lv_iconst (v := 2) S.x S.b d_Mpg_checkPlace_36 (by decide) ?_
        refine lv_icmp_ne (tgt := 48) S.x S.b d_Mpg_checkPlace_37 (by decide) (fun c407 => ?_) (fun c407 => ?_)
        · have nc407 : ¬ z406.toInt = (2 : Int) := mt (i_eq (x := z406) (y := 2)).mpr c407
          refine lv_iconst (v := 0) S.x S.b d_Mpg_checkPlace_48 (by decide) ?_
          refine lv_istore_n (lv' := [(3, .int 0), (0, .ref h), (1, .int p0), (2, .int p1)]) S.x S.b d_Mpg_checkPlace_49 rfl hl (by decide) rfl (fun ls hl => ?_)
          refine lv_aload_n S.x S.b d_Mpg_checkPlace_50 rfl (lv_at hl 1 rfl) ?_
          refine gP_14 S hT hw 0 rfl m9_238 d_Mpg_checkPlace_51 ?_
          refine lv_iload_n S.x S.b d_Mpg_checkPlace_54 rfl (lv_at hl 2 rfl) ?_
          refine px_bald S hT hw 0 10 (n := 2100) (f := (na 14)) rfl gp_14 (x := p0) (vp_in_iff.mpr (by first | exact oz_a7e05de1cd hrg.2.2 hrg.2.1 g1 g2 | (constructor <;> omega))) d_Mpg_checkPlace_55 ?_
          refine lv_topi (fun z409 ez409 => ?_)
          have lz409 := Int32.le_toInt z409
          have uz409 := Int32.toInt_lt z409
          have rz409 := EcV.kd hec_p0 ez409
          refine lv_iconst (v := 2) S.x S.b d_Mpg_checkPlace_56 (by decide) ?_
          refine lv_icmp_ne (tgt := 91) S.x S.b d_Mpg_checkPlace_57 (by decide) (fun c410 => ?_) (fun c410 => ?_)
          · have nc410 : ¬ z409.toInt = (2 : Int) := mt (i_eq (x := z409) (y := 2)).mpr c410
            refine lv_iload_n S.x S.b d_Mpg_checkPlace_91 rfl (lv_at hl 0 rfl) ?_
            refine lv_if_ne (tgt := 106) S.x S.b d_Mpg_checkPlace_92 (by decide) (fun c412 => ?_) (fun c412 => ?_)
            · exact absurd c412 (by decide)
            ·
              refine lv_aload_n S.x S.b d_Mpg_checkPlace_95 rfl (lv_at hl 1 rfl) ?_
              refine lv_bipush (v := 6) S.x S.b d_Mpg_checkPlace_96 (by decide) ?_
              refine lv_aload_n S.x S.b d_Mpg_checkPlace_98 rfl (lv_at hl 1 rfl) ?_
              refine lv_iload_n S.x S.b d_Mpg_checkPlace_99 rfl (lv_at hl 2 rfl) ?_
              first | refine px_calli (pr := []) (px_runV (As := [.int p0]) (rest := [.int 6, .ref h]) S (c_mp_first l D cs h r g tf ta pf na ma wa cf ca ef ea xf xa p0  (show 0 ≤ p0.toInt from hrg.2.2) (show p0.toInt < (pf 13).toInt from (oz_7319c2f99d g1 hrg.2.1)) (show (pf 13).toInt ≤ 2100 from g2) htk (FsI.le (N' := (pf 13).toInt) hfs (by omega)) _) hT (pr := []) (pcs := [wdP cs h r g tf ta pf na ma wa cf ca ef ea xf xa]) hw px_X.tt (px_recv hT hw 0 0 rfl rfl rfl) m13_9 m13_6 m13_8 ms_12_15 m1_21 q_Mpg_first ⟨Nat.le_of_ble_eq_true rfl, Nat.le_of_ble_eq_true rfl⟩ hl.1 rfl (Nat.le_of_ble_eq_true rfl) d_Mpg_checkPlace_100 ⟨Nat.le_of_ble_eq_true rfl, Nat.le_of_ble_eq_true rfl⟩) hw hA (fun v414 p413 H locs hp413 hw => ?_) | (refine px_calli (pr := []) (px_runV (As := [.int p0]) (rest := [.int 6, .ref h]) S (c_mp_first l D cs h r g tf ta pf na ma wa cf ca ef ea xf xa p0  (show 0 ≤ p0.toInt from by first | exact hrg.2.2 | omega) (show p0.toInt < (pf 13).toInt from by first | exact oz_7319c2f99d g1 hrg.2.1 | omega) (show (pf 13).toInt ≤ 2100 from by first | exact g2 | omega) htk (FsI.le (N' := (pf 13).toInt) hfs (by omega)) _) hT (pr := []) (pcs := [wdP cs h r g tf ta pf na ma wa cf ca ef ea xf xa]) hw px_X.tt (px_recv hT hw 0 0 rfl rfl rfl) m13_9 m13_6 m13_8 ms_12_15 m1_21 q_Mpg_first ⟨Nat.le_of_ble_eq_true rfl, Nat.le_of_ble_eq_true rfl⟩ hl.1 rfl (Nat.le_of_ble_eq_true rfl) d_Mpg_checkPlace_100 ⟨Nat.le_of_ble_eq_true rfl, Nat.le_of_ble_eq_true rfl⟩) hw hA (fun v414 p413 H locs hp413 hw => ?_))
              obtain ⟨rfl, e415, e416, e417⟩ := hp413
              have e415 : 0 ≤ v414.toInt := e415
              have e416 : v414.toInt < (tf 6).toInt := e416
              have e417 : R_mp_first na p0 v414 := e417
              have lv414 := Int32.le_toInt v414
              have uv414 := Int32.toInt_lt v414
              first | refine px_callv (pr := []) (px_runV (As := [.int 6, .int v414]) (rest := []) S (c_mp_bad l D cs h r g tf ta pf na ma wa ca ef ea xf xa cf 6 v414  (show 1 ≤ (6 : Int) from oz_2c1e0e66aa) (show 0 ≤ v414.toInt from e415) (show v414.toInt < (tf 6).toInt from e416) htk hwr _) hT (pr := []) (pcs := [wdP cs h r g tf ta pf na ma wa cf ca ef ea xf xa]) hw px_X.tt (px_recv hT hw 0 0 rfl rfl rfl) m12_173 m12_170 m12_172 ms_11_12 m1_21 q_Mpg_bad ⟨Nat.le_of_ble_eq_true rfl, Nat.le_of_ble_eq_true rfl⟩ hl.1 rfl (Nat.le_of_ble_eq_true rfl) d_Mpg_checkPlace_103 ⟨Nat.le_of_ble_eq_true rfl, Nat.le_of_ble_eq_true rfl⟩) hw hA (fun p420 H locs hp420 hw => ?_) | (refine px_callv (pr := []) (px_runV (As := [.int 6, .int v414]) (rest := []) S (c_mp_bad l D cs h r g tf ta pf na ma wa ca ef ea xf xa cf 6 v414  (show 1 ≤ (6 : Int) from by first | exact oz_2c1e0e66aa | omega) (show 0 ≤ v414.toInt from by first | exact e415 | omega) (show v414.toInt < (tf 6).toInt from by first | exact e416 | omega) htk hwr _) hT (pr := []) (pcs := [wdP cs h r g tf ta pf na ma wa cf ca ef ea xf xa]) hw px_X.tt (px_recv hT hw 0 0 rfl rfl rfl) m12_173 m12_170 m12_172 ms_11_12 m1_21 q_Mpg_bad ⟨Nat.le_of_ble_eq_true rfl, Nat.le_of_ble_eq_true rfl⟩ hl.1 rfl (Nat.le_of_ble_eq_true rfl) d_Mpg_checkPlace_103 ⟨Nat.le_of_ble_eq_true rfl, Nat.le_of_ble_eq_true rfl⟩) hw hA (fun p420 H locs hp420 hw => ?_))
              obtain ⟨cf419, rfl, e422, e423, e424, e425, e426, e427, e428, e429, e430, e431, e432, e433, e434, e435, e436, e437, e438, e439, e440, e441⟩ := hp420
              have e422 : KpE cf cf419 := e422
              have hke := (hke).tr e422
              have hkz_e422 := e422.2
              have e423 : WrV cf419 (tf 6).toInt := e423
              have hwr := e423
              have hw0_e423 := hwr.1
              have e424 : 1 ≤ (cf419 30).toInt := e424
              have e425 : (cf419 33).toInt = (cf 33).toInt := e425
              have e426 : (cf419 38).toInt = (cf 38).toInt := e426
              have e427 : (cf419 48).toInt = (cf 48).toInt := e427
              have e428 : (cf419 46).toInt = (cf 46).toInt := e428
              have e429 : (cf419 47).toInt = (cf 47).toInt := e429
              have e430 : (cf419 57).toInt = (cf 57).toInt := e430
              have e431 : (cf419 37).toInt = (cf 37).toInt := e431
              have e432 : (cf419 42).toInt = (cf 42).toInt := e432
              have e433 : (cf419 43).toInt = (cf 43).toInt := e433
              have e434 : (cf419 44).toInt = (cf 44).toInt := e434
              have e435 : (cf419 45).toInt = (cf 45).toInt := e435
              have e436 : (cf419 54).toInt = (cf 54).toInt := e436
              have e437 : (cf419 55).toInt = (cf 55).toInt := e437
              have e438 : (cf419 58).toInt = (cf 58).toInt := e438
              have e439 : (cf419 59).toInt = (cf 59).toInt := e439
              have e440 : (cf419 41).toInt = (cf 41).toInt := e440
              have e441 : R_mp_bad (6 : Int32) v414 cf cf419 := e441
              first | exact px_vret S hr hlk hAe hw (Nat.le_of_ble_eq_true rfl) (Nat.le_of_ble_eq_true rfl) (⟨cf419, rfl, (show KpE cf cf419 from hke), (show WrV cf419 (tf 6).toInt from hwr), (show (cf419 33).toInt = (cf 33).toInt from e425), (show (cf419 38).toInt = (cf 38).toInt from e426), (show (cf419 48).toInt = (cf 48).toInt from e427), (show (cf419 46).toInt = (cf 46).toInt from e428), (show (cf419 47).toInt = (cf 47).toInt from e429), (show (cf419 57).toInt = (cf 57).toInt from e430), (show ZPl cf419 na ma p0 p1.toInt from (zr_no (by omega))), (show R_mp_checkPlace ta na ca p0 p1 cf cf419 from (Or.inl (Or.inr ⟨nc1, Or.inl ⟨nc352, z354, ez354, Or.inr ⟨nc355, z406, ez406, Or.inl ⟨nc407, z409, ez409, Or.inl ⟨nc410, v414, e417, cf419, e441, rfl⟩⟩⟩⟩⟩)))⟩) d_Mpg_checkPlace_106 | (exact px_vret S hr hlk hAe hw (Nat.le_of_ble_eq_true rfl) (Nat.le_of_ble_eq_true rfl) (⟨cf419, rfl, (show KpE cf cf419 from hke), (show WrV cf419 (tf 6).toInt from hwr), (show (cf419 33).toInt = (cf 33).toInt from by first | exact e425 | omega), (show (cf419 38).toInt = (cf 38).toInt from by first | exact e426 | omega), (show (cf419 48).toInt = (cf 48).toInt from by first | exact e427 | omega), (show (cf419 46).toInt = (cf 46).toInt from by first | exact e428 | omega), (show (cf419 47).toInt = (cf 47).toInt from by first | exact e429 | omega), (show (cf419 57).toInt = (cf 57).toInt from by first | exact e430 | omega), (show ZPl cf419 na ma p0 p1.toInt from (zr_no (by omega))), (show R_mp_checkPlace ta na ca p0 p1 cf cf419 from (Or.inl (Or.inr ⟨nc1, Or.inl ⟨nc352, z354, ez354, Or.inr ⟨nc355, z406, ez406, Or.inl ⟨nc407, z409, ez409, Or.inl ⟨nc410, v414, e417, cf419, e441, rfl⟩⟩⟩⟩⟩)))⟩) d_Mpg_checkPlace_106)
          · have nc410 : z409.toInt = (2 : Int) := (i_eq (x := z409) (y := 2)).mp c410
            refine lv_iload_n S.x S.b d_Mpg_checkPlace_60 rfl (lv_at hl 3 rfl) ?_
            refine lv_iconst (v := 1) S.x S.b d_Mpg_checkPlace_61 (by decide) ?_
            refine lv_icmp_ne (tgt := 91) S.x S.b d_Mpg_checkPlace_62 (by decide) (fun c442 => ?_) (fun c442 => ?_)
            · have nc442 : ¬ p1.toInt = (1 : Int) := mt (i_eq (x := p1) (y := 1)).mpr c442
              refine lv_iload_n S.x S.b d_Mpg_checkPlace_91 rfl (lv_at hl 0 rfl) ?_
              refine lv_if_ne (tgt := 106) S.x S.b d_Mpg_checkPlace_92 (by decide) (fun c444 => ?_) (fun c444 => ?_)
              · exact absurd c444 (by decide)
              ·
                refine lv_aload_n S.x S.b d_Mpg_checkPlace_95 rfl (lv_at hl 1 rfl) ?_
                refine lv_bipush (v := 6) S.x S.b d_Mpg_checkPlace_96 (by decide) ?_
                refine lv_aload_n S.x S.b d_Mpg_checkPlace_98 rfl (lv_at hl 1 rfl) ?_
                refine lv_iload_n S.x S.b d_Mpg_checkPlace_99 rfl (lv_at hl 2 rfl) ?_
                first | refine px_calli (pr := []) (px_runV (As := [.int p0]) (rest := [.int 6, .ref h]) S (c_mp_first l D cs h r g tf ta pf na ma wa cf ca ef ea xf xa p0  (show 0 ≤ p0.toInt from hrg.2.2) (show p0.toInt < (pf 13).toInt from (oz_7319c2f99d g1 hrg.2.1)) (show (pf 13).toInt ≤ 2100 from g2) htk (FsI.le (N' := (pf 13).toInt) hfs (by omega)) _) hT (pr := []) (pcs := [wdP cs h r g tf ta pf na ma wa cf ca ef ea xf xa]) hw px_X.tt (px_recv hT hw 0 0 rfl rfl rfl) m13_9 m13_6 m13_8 ms_12_15 m1_21 q_Mpg_first ⟨Nat.le_of_ble_eq_true rfl, Nat.le_of_ble_eq_true rfl⟩ hl.1 rfl (Nat.le_of_ble_eq_true rfl) d_Mpg_checkPlace_100 ⟨Nat.le_of_ble_eq_true rfl, Nat.le_of_ble_eq_true rfl⟩) hw hA (fun v446 p445 H locs hp445 hw => ?_) | (refine px_calli (pr := []) (px_runV (As := [.int p0]) (rest := [.int 6, .ref h]) S (c_mp_first l D cs h r g tf ta pf na ma wa cf ca ef ea xf xa p0  (show 0 ≤ p0.toInt from by first | exact hrg.2.2 | omega) (show p0.toInt < (pf 13).toInt from by first | exact oz_7319c2f99d g1 hrg.2.1 | omega) (show (pf 13).toInt ≤ 2100 from by first | exact g2 | omega) htk (FsI.le (N' := (pf 13).toInt) hfs (by omega)) _) hT (pr := []) (pcs := [wdP cs h r g tf ta pf na ma wa cf ca ef ea xf xa]) hw px_X.tt (px_recv hT hw 0 0 rfl rfl rfl) m13_9 m13_6 m13_8 ms_12_15 m1_21 q_Mpg_first ⟨Nat.le_of_ble_eq_true rfl, Nat.le_of_ble_eq_true rfl⟩ hl.1 rfl (Nat.le_of_ble_eq_true rfl) d_Mpg_checkPlace_100 ⟨Nat.le_of_ble_eq_true rfl, Nat.le_of_ble_eq_true rfl⟩) hw hA (fun v446 p445 H locs hp445 hw => ?_))
                obtain ⟨rfl, e447, e448, e449⟩ := hp445
                have e447 : 0 ≤ v446.toInt := e447
                have e448 : v446.toInt < (tf 6).toInt := e448
                have e449 : R_mp_first na p0 v446 := e449
                have lv446 := Int32.le_toInt v446
                have uv446 := Int32.toInt_lt v446
                first | refine px_callv (pr := []) (px_runV (As := [.int 6, .int v446]) (rest := []) S (c_mp_bad l D cs h r g tf ta pf na ma wa ca ef ea xf xa cf 6 v446  (show 1 ≤ (6 : Int) from oz_2c1e0e66aa) (show 0 ≤ v446.toInt from e447) (show v446.toInt < (tf 6).toInt from e448) htk hwr _) hT (pr := []) (pcs := [wdP cs h r g tf ta pf na ma wa cf ca ef ea xf xa]) hw px_X.tt (px_recv hT hw 0 0 rfl rfl rfl) m12_173 m12_170 m12_172 ms_11_12 m1_21 q_Mpg_bad ⟨Nat.le_of_ble_eq_true rfl, Nat.le_of_ble_eq_true rfl⟩ hl.1 rfl (Nat.le_of_ble_eq_true rfl) d_Mpg_checkPlace_103 ⟨Nat.le_of_ble_eq_true rfl, Nat.le_of_ble_eq_true rfl⟩) hw hA (fun p452 H locs hp452 hw => ?_) | (refine px_callv (pr := []) (px_runV (As := [.int 6, .int v446]) (rest := []) S (c_mp_bad l D cs h r g tf ta pf na ma wa ca ef ea xf xa cf 6 v446  (show 1 ≤ (6 : Int) from by first | exact oz_2c1e0e66aa | omega) (show 0 ≤ v446.toInt from by first | exact e447 | omega) (show v446.toInt < (tf 6).toInt from by first | exact e448 | omega) htk hwr _) hT (pr := []) (pcs := [wdP cs h r g tf ta pf na ma wa cf ca ef ea xf xa]) hw px_X.tt (px_recv hT hw 0 0 rfl rfl rfl) m12_173 m12_170 m12_172 ms_11_12 m1_21 q_Mpg_bad ⟨Nat.le_of_ble_eq_true rfl, Nat.le_of_ble_eq_true rfl⟩ hl.1 rfl (Nat.le_of_ble_eq_true rfl) d_Mpg_checkPlace_103 ⟨Nat.le_of_ble_eq_true rfl, Nat.le_of_ble_eq_true rfl⟩) hw hA (fun p452 H locs hp452 hw => ?_))
                obtain ⟨cf451, rfl, e454, e455, e456, e457, e458, e459, e460, e461, e462, e463, e464, e465, e466, e467, e468, e469, e470, e471, e472, e473⟩ := hp452
                have e454 : KpE cf cf451 := e454
                have hke := (hke).tr e454
                have hkz_e454 := e454.2
                have e455 : WrV cf451 (tf 6).toInt := e455
                have hwr := e455
                have hw0_e455 := hwr.1
                have e456 : 1 ≤ (cf451 30).toInt := e456
                have e457 : (cf451 33).toInt = (cf 33).toInt := e457
                have e458 : (cf451 38).toInt = (cf 38).toInt := e458
                have e459 : (cf451 48).toInt = (cf 48).toInt := e459
                have e460 : (cf451 46).toInt = (cf 46).toInt := e460
                have e461 : (cf451 47).toInt = (cf 47).toInt := e461
                have e462 : (cf451 57).toInt = (cf 57).toInt := e462
                have e463 : (cf451 37).toInt = (cf 37).toInt := e463
                have e464 : (cf451 42).toInt = (cf 42).toInt := e464
                have e465 : (cf451 43).toInt = (cf 43).toInt := e465
                have e466 : (cf451 44).toInt = (cf 44).toInt := e466
                have e467 : (cf451 45).toInt = (cf 45).toInt := e467
                have e468 : (cf451 54).toInt = (cf 54).toInt := e468
                have e469 : (cf451 55).toInt = (cf 55).toInt := e469
                have e470 : (cf451 58).toInt = (cf 58).toInt := e470
                have e471 : (cf451 59).toInt = (cf 59).toInt := e471
                have e472 : (cf451 41).toInt = (cf 41).toInt := e472
                have e473 : R_mp_bad (6 : Int32) v446 cf cf451 := e473
                first | exact px_vret S hr hlk hAe hw (Nat.le_of_ble_eq_true rfl) (Nat.le_of_ble_eq_true rfl) (⟨cf451, rfl, (show KpE cf cf451 from hke), (show WrV cf451 (tf 6).toInt from hwr), (show (cf451 33).toInt = (cf 33).toInt from e457), (show (cf451 38).toInt = (cf 38).toInt from e458), (show (cf451 48).toInt = (cf 48).toInt from e459), (show (cf451 46).toInt = (cf 46).toInt from e460), (show (cf451 47).toInt = (cf 47).toInt from e461), (show (cf451 57).toInt = (cf 57).toInt from e462), (show ZPl cf451 na ma p0 p1.toInt from (zr_no (by omega))), (show R_mp_checkPlace ta na ca p0 p1 cf cf451 from (Or.inl (Or.inr ⟨nc1, Or.inl ⟨nc352, z354, ez354, Or.inr ⟨nc355, z406, ez406, Or.inl ⟨nc407, z409, ez409, Or.inr ⟨nc410, Or.inl ⟨nc442, v446, e449, cf451, e473, rfl⟩⟩⟩⟩⟩⟩)))⟩) d_Mpg_checkPlace_106 | (exact px_vret S hr hlk hAe hw (Nat.le_of_ble_eq_true rfl) (Nat.le_of_ble_eq_true rfl) (⟨cf451, rfl, (show KpE cf cf451 from hke), (show WrV cf451 (tf 6).toInt from hwr), (show (cf451 33).toInt = (cf 33).toInt from by first | exact e457 | omega), (show (cf451 38).toInt = (cf 38).toInt from by first | exact e458 | omega), (show (cf451 48).toInt = (cf 48).toInt from by first | exact e459 | omega), (show (cf451 46).toInt = (cf 46).toInt from by first | exact e460 | omega), (show (cf451 47).toInt = (cf 47).toInt from by first | exact e461 | omega), (show (cf451 57).toInt = (cf 57).toInt from by first | exact e462 | omega), (show ZPl cf451 na ma p0 p1.toInt from (zr_no (by omega))), (show R_mp_checkPlace ta na ca p0 p1 cf cf451 from (Or.inl (Or.inr ⟨nc1, Or.inl ⟨nc352, z354, ez354, Or.inr ⟨nc355, z406, ez406, Or.inl ⟨nc407, z409, ez409, Or.inr ⟨nc410, Or.inl ⟨nc442, v446, e449, cf451, e473, rfl⟩⟩⟩⟩⟩⟩)))⟩) d_Mpg_checkPlace_106)
            · have nc442 : p1.toInt = (1 : Int) := (i_eq (x := p1) (y := 1)).mp c442
              refine lv_aload_n S.x S.b d_Mpg_checkPlace_65 rfl (lv_at hl 1 rfl) ?_
              refine gP_35 S hT hw 0 rfl m10_24 d_Mpg_checkPlace_66 ?_
              refine lv_aload_n S.x S.b d_Mpg_checkPlace_69 rfl (lv_at hl 1 rfl) ?_
              refine lv_aload_n S.x S.b d_Mpg_checkPlace_70 rfl (lv_at hl 1 rfl) ?_
              refine gP_15 S hT hw 0 rfl m9_239 d_Mpg_checkPlace_71 ?_
              refine lv_iload_n S.x S.b d_Mpg_checkPlace_74 rfl (lv_at hl 2 rfl) ?_
              refine px_iald S hT hw 0 11 (n := 2100) (f := (na 15)) rfl gp_15 (x := p0) (vp_in_iff.mpr (by first | exact oz_a7e05de1cd hrg.2.2 hrg.2.1 g1 g2 | (constructor <;> omega))) d_Mpg_checkPlace_75 ?_
              refine lv_topi (fun z474 ez474 => ?_)
              have lz474 := Int32.le_toInt z474
              have uz474 := Int32.toInt_lt z474
              have rz474 := EcV.tok hec_p0 ez474
              refine lv_iconst (v := 0) S.x S.b d_Mpg_checkPlace_76 (by decide) ?_
              first | refine px_calli (pr := []) (px_runV (As := [.int z474, .int 0]) (rest := [.ref (r 35)]) S (c_mp_find l D cs h r g tf ta pf na ma wa cf ca ef ea xf xa z474 0  (show 0 ≤ z474.toInt from rz474.1) (show z474.toInt < (tf 6).toInt from (oz_7fe81129bf rz474.2)) (show (tf 6).toInt ≤ 2049 from g3) (show 0 ≤ (0 : Int) from oz_5a341f00aa) (show 0 ≤ (cf 33).toInt from (oz_f3ebed1ad0 g4 g5)) htk (KnT.eq hkt (by omega)) _) hT (pr := []) (pcs := [wdP cs h r g tf ta pf na ma wa cf ca ef ea xf xa]) hw px_X.tt (px_recv hT hw 0 0 rfl rfl rfl) m12_181 m12_178 m12_180 ms_11_14 m1_21 q_Mpg_find ⟨Nat.le_of_ble_eq_true rfl, Nat.le_of_ble_eq_true rfl⟩ hl.1 rfl (Nat.le_of_ble_eq_true rfl) d_Mpg_checkPlace_77 ⟨Nat.le_of_ble_eq_true rfl, Nat.le_of_ble_eq_true rfl⟩) hw hA (fun v476 p475 H locs hp475 hw => ?_) | (refine px_calli (pr := []) (px_runV (As := [.int z474, .int 0]) (rest := [.ref (r 35)]) S (c_mp_find l D cs h r g tf ta pf na ma wa cf ca ef ea xf xa z474 0  (show 0 ≤ z474.toInt from by first | exact rz474.1 | omega) (show z474.toInt < (tf 6).toInt from by first | exact oz_7fe81129bf rz474.2 | omega) (show (tf 6).toInt ≤ 2049 from by first | exact g3 | omega) (show 0 ≤ (0 : Int) from by first | exact oz_5a341f00aa | omega) (show 0 ≤ (cf 33).toInt from by first | exact oz_f3ebed1ad0 g4 g5 | omega) htk (KnT.eq hkt (by omega)) _) hT (pr := []) (pcs := [wdP cs h r g tf ta pf na ma wa cf ca ef ea xf xa]) hw px_X.tt (px_recv hT hw 0 0 rfl rfl rfl) m12_181 m12_178 m12_180 ms_11_14 m1_21 q_Mpg_find ⟨Nat.le_of_ble_eq_true rfl, Nat.le_of_ble_eq_true rfl⟩ hl.1 rfl (Nat.le_of_ble_eq_true rfl) d_Mpg_checkPlace_77 ⟨Nat.le_of_ble_eq_true rfl, Nat.le_of_ble_eq_true rfl⟩) hw hA (fun v476 p475 H locs hp475 hw => ?_))
              obtain ⟨rfl, e477, e478, e479, e480, e481⟩ := hp475
              have e477 : -1 ≤ v476.toInt := e477
              have e478 : v476.toInt < (cf 33).toInt := e478
              have e479 : 0 ≤ v476.toInt → (0 : Int) ≤ v476.toInt := e479
              have e480 : FndV ta ca (cf 33).toInt z474 (0 : Int) v476.toInt := e480
              have hfd := e480
              have e481 : R_mp_find ta cf ca z474 (0 : Int32) v476 := e481
              have lv476 := Int32.le_toInt v476
              have uv476 := Int32.toInt_lt v476
              have hps := nm_pos (hnj (by omega)) (by omega) hfd ez474 (by omega)
              refine px_iald S hT hw 0 24 (n := 1100) (f := (ca 35)) rfl gp_35 (x := v476) (vp_in_iff.mpr (by constructor <;> omega)) d_Mpg_checkPlace_80 ?_
              refine lv_topi (fun z482 ez482 => ?_)
              have lz482 := Int32.le_toInt z482
              have uz482 := Int32.toInt_lt z482
              refine lv_iconst (v := 1) S.x S.b d_Mpg_checkPlace_81 (by decide) ?_
              refine lv_icmp_ne (tgt := 89) S.x S.b d_Mpg_checkPlace_82 (by decide) (fun c483 => ?_) (fun c483 => ?_)
              · have nc483 : ¬ z482.toInt = (1 : Int) := mt (i_eq (x := z482) (y := 1)).mpr c483
                refine lv_iconst (v := 0) S.x S.b d_Mpg_checkPlace_89 (by decide) ?_
                refine lv_istore_n (lv' := [(3, .int 0), (0, .ref h), (1, .int p0), (2, .int p1)]) S.x S.b d_Mpg_checkPlace_90 rfl hl (by decide) rfl (fun ls hl => ?_)
                refine lv_iload_n S.x S.b d_Mpg_checkPlace_91 rfl (lv_at hl 0 rfl) ?_
                refine lv_if_ne (tgt := 106) S.x S.b d_Mpg_checkPlace_92 (by decide) (fun c485 => ?_) (fun c485 => ?_)
                · exact absurd c485 (by decide)
                ·
                  refine lv_aload_n S.x S.b d_Mpg_checkPlace_95 rfl (lv_at hl 1 rfl) ?_
                  refine lv_bipush (v := 6) S.x S.b d_Mpg_checkPlace_96 (by decide) ?_
                  refine lv_aload_n S.x S.b d_Mpg_checkPlace_98 rfl (lv_at hl 1 rfl) ?_
                  refine lv_iload_n S.x S.b d_Mpg_checkPlace_99 rfl (lv_at hl 2 rfl) ?_
                  first | refine px_calli (pr := []) (px_runV (As := [.int p0]) (rest := [.int 6, .ref h]) S (c_mp_first l D cs h r g tf ta pf na ma wa cf ca ef ea xf xa p0  (show 0 ≤ p0.toInt from hrg.2.2) (show p0.toInt < (pf 13).toInt from (oz_7319c2f99d g1 hrg.2.1)) (show (pf 13).toInt ≤ 2100 from g2) htk (FsI.le (N' := (pf 13).toInt) hfs (by omega)) _) hT (pr := []) (pcs := [wdP cs h r g tf ta pf na ma wa cf ca ef ea xf xa]) hw px_X.tt (px_recv hT hw 0 0 rfl rfl rfl) m13_9 m13_6 m13_8 ms_12_15 m1_21 q_Mpg_first ⟨Nat.le_of_ble_eq_true rfl, Nat.le_of_ble_eq_true rfl⟩ hl.1 rfl (Nat.le_of_ble_eq_true rfl) d_Mpg_checkPlace_100 ⟨Nat.le_of_ble_eq_true rfl, Nat.le_of_ble_eq_true rfl⟩) hw hA (fun v487 p486 H locs hp486 hw => ?_) | (refine px_calli (pr := []) (px_runV (As := [.int p0]) (rest := [.int 6, .ref h]) S (c_mp_first l D cs h r g tf ta pf na ma wa cf ca ef ea xf xa p0  (show 0 ≤ p0.toInt from by first | exact hrg.2.2 | omega) (show p0.toInt < (pf 13).toInt from by first | exact oz_7319c2f99d g1 hrg.2.1 | omega) (show (pf 13).toInt ≤ 2100 from by first | exact g2 | omega) htk (FsI.le (N' := (pf 13).toInt) hfs (by omega)) _) hT (pr := []) (pcs := [wdP cs h r g tf ta pf na ma wa cf ca ef ea xf xa]) hw px_X.tt (px_recv hT hw 0 0 rfl rfl rfl) m13_9 m13_6 m13_8 ms_12_15 m1_21 q_Mpg_first ⟨Nat.le_of_ble_eq_true rfl, Nat.le_of_ble_eq_true rfl⟩ hl.1 rfl (Nat.le_of_ble_eq_true rfl) d_Mpg_checkPlace_100 ⟨Nat.le_of_ble_eq_true rfl, Nat.le_of_ble_eq_true rfl⟩) hw hA (fun v487 p486 H locs hp486 hw => ?_))
                  obtain ⟨rfl, e488, e489, e490⟩ := hp486
                  have e488 : 0 ≤ v487.toInt := e488
                  have e489 : v487.toInt < (tf 6).toInt := e489
                  have e490 : R_mp_first na p0 v487 := e490
                  have lv487 := Int32.le_toInt v487
                  have uv487 := Int32.toInt_lt v487
                  first | refine px_callv (pr := []) (px_runV (As := [.int 6, .int v487]) (rest := []) S (c_mp_bad l D cs h r g tf ta pf na ma wa ca ef ea xf xa cf 6 v487  (show 1 ≤ (6 : Int) from oz_2c1e0e66aa) (show 0 ≤ v487.toInt from e488) (show v487.toInt < (tf 6).toInt from e489) htk hwr _) hT (pr := []) (pcs := [wdP cs h r g tf ta pf na ma wa cf ca ef ea xf xa]) hw px_X.tt (px_recv hT hw 0 0 rfl rfl rfl) m12_173 m12_170 m12_172 ms_11_12 m1_21 q_Mpg_bad ⟨Nat.le_of_ble_eq_true rfl, Nat.le_of_ble_eq_true rfl⟩ hl.1 rfl (Nat.le_of_ble_eq_true rfl) d_Mpg_checkPlace_103 ⟨Nat.le_of_ble_eq_true rfl, Nat.le_of_ble_eq_true rfl⟩) hw hA (fun p493 H locs hp493 hw => ?_) | (refine px_callv (pr := []) (px_runV (As := [.int 6, .int v487]) (rest := []) S (c_mp_bad l D cs h r g tf ta pf na ma wa ca ef ea xf xa cf 6 v487  (show 1 ≤ (6 : Int) from by first | exact oz_2c1e0e66aa | omega) (show 0 ≤ v487.toInt from by first | exact e488 | omega) (show v487.toInt < (tf 6).toInt from by first | exact e489 | omega) htk hwr _) hT (pr := []) (pcs := [wdP cs h r g tf ta pf na ma wa cf ca ef ea xf xa]) hw px_X.tt (px_recv hT hw 0 0 rfl rfl rfl) m12_173 m12_170 m12_172 ms_11_12 m1_21 q_Mpg_bad ⟨Nat.le_of_ble_eq_true rfl, Nat.le_of_ble_eq_true rfl⟩ hl.1 rfl (Nat.le_of_ble_eq_true rfl) d_Mpg_checkPlace_103 ⟨Nat.le_of_ble_eq_true rfl, Nat.le_of_ble_eq_true rfl⟩) hw hA (fun p493 H locs hp493 hw => ?_))
                  obtain ⟨cf492, rfl, e495, e496, e497, e498, e499, e500, e501, e502, e503, e504, e505, e506, e507, e508, e509, e510, e511, e512, e513, e514⟩ := hp493
                  have e495 : KpE cf cf492 := e495
                  have hke := (hke).tr e495
                  have hkz_e495 := e495.2
                  have e496 : WrV cf492 (tf 6).toInt := e496
                  have hwr := e496
                  have hw0_e496 := hwr.1
                  have e497 : 1 ≤ (cf492 30).toInt := e497
                  have e498 : (cf492 33).toInt = (cf 33).toInt := e498
                  have e499 : (cf492 38).toInt = (cf 38).toInt := e499
                  have e500 : (cf492 48).toInt = (cf 48).toInt := e500
                  have e501 : (cf492 46).toInt = (cf 46).toInt := e501
                  have e502 : (cf492 47).toInt = (cf 47).toInt := e502
                  have e503 : (cf492 57).toInt = (cf 57).toInt := e503
                  have e504 : (cf492 37).toInt = (cf 37).toInt := e504
                  have e505 : (cf492 42).toInt = (cf 42).toInt := e505
                  have e506 : (cf492 43).toInt = (cf 43).toInt := e506
                  have e507 : (cf492 44).toInt = (cf 44).toInt := e507
                  have e508 : (cf492 45).toInt = (cf 45).toInt := e508
                  have e509 : (cf492 54).toInt = (cf 54).toInt := e509
                  have e510 : (cf492 55).toInt = (cf 55).toInt := e510
                  have e511 : (cf492 58).toInt = (cf 58).toInt := e511
                  have e512 : (cf492 59).toInt = (cf 59).toInt := e512
                  have e513 : (cf492 41).toInt = (cf 41).toInt := e513
                  have e514 : R_mp_bad (6 : Int32) v487 cf cf492 := e514
                  first | exact px_vret S hr hlk hAe hw (Nat.le_of_ble_eq_true rfl) (Nat.le_of_ble_eq_true rfl) (⟨cf492, rfl, (show KpE cf cf492 from hke), (show WrV cf492 (tf 6).toInt from hwr), (show (cf492 33).toInt = (cf 33).toInt from e498), (show (cf492 38).toInt = (cf 38).toInt from e499), (show (cf492 48).toInt = (cf 48).toInt from e500), (show (cf492 46).toInt = (cf 46).toInt from e501), (show (cf492 47).toInt = (cf 47).toInt from e502), (show (cf492 57).toInt = (cf 57).toInt from e503), (show ZPl cf492 na ma p0 p1.toInt from (zr_no (by omega))), (show R_mp_checkPlace ta na ca p0 p1 cf cf492 from (Or.inl (Or.inr ⟨nc1, Or.inl ⟨nc352, z354, ez354, Or.inr ⟨nc355, z406, ez406, Or.inl ⟨nc407, z409, ez409, Or.inr ⟨nc410, Or.inr ⟨nc442, z474, ez474, v476, e481, z482, ez482, Or.inl ⟨nc483, v487, e490, cf492, e514, rfl⟩⟩⟩⟩⟩⟩⟩)))⟩) d_Mpg_checkPlace_106 | (exact px_vret S hr hlk hAe hw (Nat.le_of_ble_eq_true rfl) (Nat.le_of_ble_eq_true rfl) (⟨cf492, rfl, (show KpE cf cf492 from hke), (show WrV cf492 (tf 6).toInt from hwr), (show (cf492 33).toInt = (cf 33).toInt from by first | exact e498 | omega), (show (cf492 38).toInt = (cf 38).toInt from by first | exact e499 | omega), (show (cf492 48).toInt = (cf 48).toInt from by first | exact e500 | omega), (show (cf492 46).toInt = (cf 46).toInt from by first | exact e501 | omega), (show (cf492 47).toInt = (cf 47).toInt from by first | exact e502 | omega), (show (cf492 57).toInt = (cf 57).toInt from by first | exact e503 | omega), (show ZPl cf492 na ma p0 p1.toInt from (zr_no (by omega))), (show R_mp_checkPlace ta na ca p0 p1 cf cf492 from (Or.inl (Or.inr ⟨nc1, Or.inl ⟨nc352, z354, ez354, Or.inr ⟨nc355, z406, ez406, Or.inl ⟨nc407, z409, ez409, Or.inr ⟨nc410, Or.inr ⟨nc442, z474, ez474, v476, e481, z482, ez482, Or.inl ⟨nc483, v487, e490, cf492, e514, rfl⟩⟩⟩⟩⟩⟩⟩)))⟩) d_Mpg_checkPlace_106)
              · have nc483 : z482.toInt = (1 : Int) := (i_eq (x := z482) (y := 1)).mp c483
                refine lv_iconst (v := 1) S.x S.b d_Mpg_checkPlace_85 (by decide) ?_
                refine lv_goto (tgt := 90) S.x S.b d_Mpg_checkPlace_86 (by decide) ?_
                refine lv_istore_n (lv' := [(3, .int 1), (0, .ref h), (1, .int p0), (2, .int p1)]) S.x S.b d_Mpg_checkPlace_90 rfl hl (by decide) rfl (fun ls hl => ?_)
                refine lv_iload_n S.x S.b d_Mpg_checkPlace_91 rfl (lv_at hl 0 rfl) ?_
                refine lv_if_ne (tgt := 106) S.x S.b d_Mpg_checkPlace_92 (by decide) (fun c515 => ?_) (fun c515 => ?_)
                ·
                  exact px_vret S hr hlk hAe hw (Nat.le_of_ble_eq_true rfl) (Nat.le_of_ble_eq_true rfl) (⟨cf, rfl, (show KpE cf cf from hke), (show WrV cf (tf 6).toInt from hwr), (show (cf 33).toInt = (cf 33).toInt from rfl), (show (cf 38).toInt = (cf 38).toInt from rfl), (show (cf 48).toInt = (cf 48).toInt from rfl), (show (cf 46).toInt = (cf 46).toInt from rfl), (show (cf 47).toInt = (cf 47).toInt from rfl), (show (cf 57).toInt = (cf 57).toInt from rfl), (show ZPl cf na ma p0 p1.toInt from (fun _ => ⟨⟨by omega, by omega⟩, (by first | exact Or.inl (by omega) | exact Or.inr ⟨by omega, Or.inl (by omega)⟩ | exact Or.inr ⟨by omega, Or.inr ⟨by omega, nm_pl (hnj (by omega)) (by omega) hfd ez474 (by omega) hks (by omega) ez482 (by omega)⟩⟩)⟩)), (show R_mp_checkPlace ta na ca p0 p1 cf cf from (Or.inl (Or.inr ⟨nc1, Or.inl ⟨nc352, z354, ez354, Or.inr ⟨nc355, z406, ez406, Or.inl ⟨nc407, z409, ez409, Or.inr ⟨nc410, Or.inr ⟨nc442, z474, ez474, v476, e481, z482, ez482, Or.inr ⟨nc483, rfl⟩⟩⟩⟩⟩⟩⟩)))⟩) d_Mpg_checkPlace_106
                · exact absurd c515 (by decide)
        · have nc407 : z406.toInt = (2 : Int) := (i_eq (x := z406) (y := 2)).mp c407
          refine lv_iload_n S.x S.b d_Mpg_checkPlace_40 rfl (lv_at hl 2 rfl) ?_
          refine lv_if_ne (tgt := 48) S.x S.b d_Mpg_checkPlace_41 (by decide) (fun c516 => ?_) (fun c516 => ?_)
          · have nc516 : ¬ p1.toInt = (0 : Int) := mt (i_eq (x := p1) (y := 0)).mpr c516
            refine lv_iconst (v := 0) S.x S.b d_Mpg_checkPlace_48 (by decide) ?_
            refine lv_istore_n (lv' := [(3, .int 0), (0, .ref h), (1, .int p0), (2, .int p1)]) S.x S.b d_Mpg_checkPlace_49 rfl hl (by decide) rfl (fun ls hl => ?_)
            refine lv_aload_n S.x S.b d_Mpg_checkPlace_50 rfl (lv_at hl 1 rfl) ?_
            refine gP_14 S hT hw 0 rfl m9_238 d_Mpg_checkPlace_51 ?_
            refine lv_iload_n S.x S.b d_Mpg_checkPlace_54 rfl (lv_at hl 2 rfl) ?_
            refine px_bald S hT hw 0 10 (n := 2100) (f := (na 14)) rfl gp_14 (x := p0) (vp_in_iff.mpr (by first | exact oz_a7e05de1cd hrg.2.2 hrg.2.1 g1 g2 | (constructor <;> omega))) d_Mpg_checkPlace_55 ?_
            refine lv_topi (fun z518 ez518 => ?_)
            have lz518 := Int32.le_toInt z518
            have uz518 := Int32.toInt_lt z518
            have rz518 := EcV.kd hec_p0 ez518
            refine lv_iconst (v := 2) S.x S.b d_Mpg_checkPlace_56 (by decide) ?_
            refine lv_icmp_ne (tgt := 91) S.x S.b d_Mpg_checkPlace_57 (by decide) (fun c519 => ?_) (fun c519 => ?_)
            · have nc519 : ¬ z518.toInt = (2 : Int) := mt (i_eq (x := z518) (y := 2)).mpr c519
              refine lv_iload_n S.x S.b d_Mpg_checkPlace_91 rfl (lv_at hl 0 rfl) ?_
              refine lv_if_ne (tgt := 106) S.x S.b d_Mpg_checkPlace_92 (by decide) (fun c521 => ?_) (fun c521 => ?_)
              · exact absurd c521 (by decide)
              ·
                refine lv_aload_n S.x S.b d_Mpg_checkPlace_95 rfl (lv_at hl 1 rfl) ?_
                refine lv_bipush (v := 6) S.x S.b d_Mpg_checkPlace_96 (by decide) ?_
                refine lv_aload_n S.x S.b d_Mpg_checkPlace_98 rfl (lv_at hl 1 rfl) ?_
                refine lv_iload_n S.x S.b d_Mpg_checkPlace_99 rfl (lv_at hl 2 rfl) ?_
                first | refine px_calli (pr := []) (px_runV (As := [.int p0]) (rest := [.int 6, .ref h]) S (c_mp_first l D cs h r g tf ta pf na ma wa cf ca ef ea xf xa p0  (show 0 ≤ p0.toInt from hrg.2.2) (show p0.toInt < (pf 13).toInt from (oz_7319c2f99d g1 hrg.2.1)) (show (pf 13).toInt ≤ 2100 from g2) htk (FsI.le (N' := (pf 13).toInt) hfs (by omega)) _) hT (pr := []) (pcs := [wdP cs h r g tf ta pf na ma wa cf ca ef ea xf xa]) hw px_X.tt (px_recv hT hw 0 0 rfl rfl rfl) m13_9 m13_6 m13_8 ms_12_15 m1_21 q_Mpg_first ⟨Nat.le_of_ble_eq_true rfl, Nat.le_of_ble_eq_true rfl⟩ hl.1 rfl (Nat.le_of_ble_eq_true rfl) d_Mpg_checkPlace_100 ⟨Nat.le_of_ble_eq_true rfl, Nat.le_of_ble_eq_true rfl⟩) hw hA (fun v523 p522 H locs hp522 hw => ?_) | (refine px_calli (pr := []) (px_runV (As := [.int p0]) (rest := [.int 6, .ref h]) S (c_mp_first l D cs h r g tf ta pf na ma wa cf ca ef ea xf xa p0  (show 0 ≤ p0.toInt from by first | exact hrg.2.2 | omega) (show p0.toInt < (pf 13).toInt from by first | exact oz_7319c2f99d g1 hrg.2.1 | omega) (show (pf 13).toInt ≤ 2100 from by first | exact g2 | omega) htk (FsI.le (N' := (pf 13).toInt) hfs (by omega)) _) hT (pr := []) (pcs := [wdP cs h r g tf ta pf na ma wa cf ca ef ea xf xa]) hw px_X.tt (px_recv hT hw 0 0 rfl rfl rfl) m13_9 m13_6 m13_8 ms_12_15 m1_21 q_Mpg_first ⟨Nat.le_of_ble_eq_true rfl, Nat.le_of_ble_eq_true rfl⟩ hl.1 rfl (Nat.le_of_ble_eq_true rfl) d_Mpg_checkPlace_100 ⟨Nat.le_of_ble_eq_true rfl, Nat.le_of_ble_eq_true rfl⟩) hw hA (fun v523 p522 H locs hp522 hw => ?_))
                obtain ⟨rfl, e524, e525, e526⟩ := hp522
                have e524 : 0 ≤ v523.toInt := e524
                have e525 : v523.toInt < (tf 6).toInt := e525
                have e526 : R_mp_first na p0 v523 := e526
                have lv523 := Int32.le_toInt v523
                have uv523 := Int32.toInt_lt v523
                first | refine px_callv (pr := []) (px_runV (As := [.int 6, .int v523]) (rest := []) S (c_mp_bad l D cs h r g tf ta pf na ma wa ca ef ea xf xa cf 6 v523  (show 1 ≤ (6 : Int) from oz_2c1e0e66aa) (show 0 ≤ v523.toInt from e524) (show v523.toInt < (tf 6).toInt from e525) htk hwr _) hT (pr := []) (pcs := [wdP cs h r g tf ta pf na ma wa cf ca ef ea xf xa]) hw px_X.tt (px_recv hT hw 0 0 rfl rfl rfl) m12_173 m12_170 m12_172 ms_11_12 m1_21 q_Mpg_bad ⟨Nat.le_of_ble_eq_true rfl, Nat.le_of_ble_eq_true rfl⟩ hl.1 rfl (Nat.le_of_ble_eq_true rfl) d_Mpg_checkPlace_103 ⟨Nat.le_of_ble_eq_true rfl, Nat.le_of_ble_eq_true rfl⟩) hw hA (fun p529 H locs hp529 hw => ?_) | (refine px_callv (pr := []) (px_runV (As := [.int 6, .int v523]) (rest := []) S (c_mp_bad l D cs h r g tf ta pf na ma wa ca ef ea xf xa cf 6 v523  (show 1 ≤ (6 : Int) from by first | exact oz_2c1e0e66aa | omega) (show 0 ≤ v523.toInt from by first | exact e524 | omega) (show v523.toInt < (tf 6).toInt from by first | exact e525 | omega) htk hwr _) hT (pr := []) (pcs := [wdP cs h r g tf ta pf na ma wa cf ca ef ea xf xa]) hw px_X.tt (px_recv hT hw 0 0 rfl rfl rfl) m12_173 m12_170 m12_172 ms_11_12 m1_21 q_Mpg_bad ⟨Nat.le_of_ble_eq_true rfl, Nat.le_of_ble_eq_true rfl⟩ hl.1 rfl (Nat.le_of_ble_eq_true rfl) d_Mpg_checkPlace_103 ⟨Nat.le_of_ble_eq_true rfl, Nat.le_of_ble_eq_true rfl⟩) hw hA (fun p529 H locs hp529 hw => ?_))
                obtain ⟨cf528, rfl, e531, e532, e533, e534, e535, e536, e537, e538, e539, e540, e541, e542, e543, e544, e545, e546, e547, e548, e549, e550⟩ := hp529
                have e531 : KpE cf cf528 := e531
                have hke := (hke).tr e531
                have hkz_e531 := e531.2
                have e532 : WrV cf528 (tf 6).toInt := e532
                have hwr := e532
                have hw0_e532 := hwr.1
                have e533 : 1 ≤ (cf528 30).toInt := e533
                have e534 : (cf528 33).toInt = (cf 33).toInt := e534
                have e535 : (cf528 38).toInt = (cf 38).toInt := e535
                have e536 : (cf528 48).toInt = (cf 48).toInt := e536
                have e537 : (cf528 46).toInt = (cf 46).toInt := e537
                have e538 : (cf528 47).toInt = (cf 47).toInt := e538
                have e539 : (cf528 57).toInt = (cf 57).toInt := e539
                have e540 : (cf528 37).toInt = (cf 37).toInt := e540
                have e541 : (cf528 42).toInt = (cf 42).toInt := e541
                have e542 : (cf528 43).toInt = (cf 43).toInt := e542
                have e543 : (cf528 44).toInt = (cf 44).toInt := e543
                have e544 : (cf528 45).toInt = (cf 45).toInt := e544
                have e545 : (cf528 54).toInt = (cf 54).toInt := e545
                have e546 : (cf528 55).toInt = (cf 55).toInt := e546
                have e547 : (cf528 58).toInt = (cf 58).toInt := e547
                have e548 : (cf528 59).toInt = (cf 59).toInt := e548
                have e549 : (cf528 41).toInt = (cf 41).toInt := e549
                have e550 : R_mp_bad (6 : Int32) v523 cf cf528 := e550
                first | exact px_vret S hr hlk hAe hw (Nat.le_of_ble_eq_true rfl) (Nat.le_of_ble_eq_true rfl) (⟨cf528, rfl, (show KpE cf cf528 from hke), (show WrV cf528 (tf 6).toInt from hwr), (show (cf528 33).toInt = (cf 33).toInt from e534), (show (cf528 38).toInt = (cf 38).toInt from e535), (show (cf528 48).toInt = (cf 48).toInt from e536), (show (cf528 46).toInt = (cf 46).toInt from e537), (show (cf528 47).toInt = (cf 47).toInt from e538), (show (cf528 57).toInt = (cf 57).toInt from e539), (show ZPl cf528 na ma p0 p1.toInt from (zr_no (by omega))), (show R_mp_checkPlace ta na ca p0 p1 cf cf528 from (Or.inl (Or.inr ⟨nc1, Or.inl ⟨nc352, z354, ez354, Or.inr ⟨nc355, z406, ez406, Or.inr ⟨nc407, Or.inl ⟨nc516, z518, ez518, Or.inl ⟨nc519, v523, e526, cf528, e550, rfl⟩⟩⟩⟩⟩⟩)))⟩) d_Mpg_checkPlace_106 | (exact px_vret S hr hlk hAe hw (Nat.le_of_ble_eq_true rfl) (Nat.le_of_ble_eq_true rfl) (⟨cf528, rfl, (show KpE cf cf528 from hke), (show WrV cf528 (tf 6).toInt from hwr), (show (cf528 33).toInt = (cf 33).toInt from by first | exact e534 | omega), (show (cf528 38).toInt = (cf 38).toInt from by first | exact e535 | omega), (show (cf528 48).toInt = (cf 48).toInt from by first | exact e536 | omega), (show (cf528 46).toInt = (cf 46).toInt from by first | exact e537 | omega), (show (cf528 47).toInt = (cf 47).toInt from by first | exact e538 | omega), (show (cf528 57).toInt = (cf 57).toInt from by first | exact e539 | omega), (show ZPl cf528 na ma p0 p1.toInt from (zr_no (by omega))), (show R_mp_checkPlace ta na ca p0 p1 cf cf528 from (Or.inl (Or.inr ⟨nc1, Or.inl ⟨nc352, z354, ez354, Or.inr ⟨nc355, z406, ez406, Or.inr ⟨nc407, Or.inl ⟨nc516, z518, ez518, Or.inl ⟨nc519, v523, e526, cf528, e550, rfl⟩⟩⟩⟩⟩⟩)))⟩) d_Mpg_checkPlace_106)
            · have nc519 : z518.toInt = (2 : Int) := (i_eq (x := z518) (y := 2)).mp c519
              refine lv_iload_n S.x S.b d_Mpg_checkPlace_60 rfl (lv_at hl 3 rfl) ?_
              refine lv_iconst (v := 1) S.x S.b d_Mpg_checkPlace_61 (by decide) ?_
              refine lv_icmp_ne (tgt := 91) S.x S.b d_Mpg_checkPlace_62 (by decide) (fun c551 => ?_) (fun c551 => ?_)
              · have nc551 : ¬ p1.toInt = (1 : Int) := mt (i_eq (x := p1) (y := 1)).mpr c551
                refine lv_iload_n S.x S.b d_Mpg_checkPlace_91 rfl (lv_at hl 0 rfl) ?_
                refine lv_if_ne (tgt := 106) S.x S.b d_Mpg_checkPlace_92 (by decide) (fun c553 => ?_) (fun c553 => ?_)
                · exact absurd c553 (by decide)
                ·
                  refine lv_aload_n S.x S.b d_Mpg_checkPlace_95 rfl (lv_at hl 1 rfl) ?_
                  refine lv_bipush (v := 6) S.x S.b d_Mpg_checkPlace_96 (by decide) ?_
                  refine lv_aload_n S.x S.b d_Mpg_checkPlace_98 rfl (lv_at hl 1 rfl) ?_
                  refine lv_iload_n S.x S.b d_Mpg_checkPlace_99 rfl (lv_at hl 2 rfl) ?_
                  first | refine px_calli (pr := []) (px_runV (As := [.int p0]) (rest := [.int 6, .ref h]) S (c_mp_first l D cs h r g tf ta pf na ma wa cf ca ef ea xf xa p0  (show 0 ≤ p0.toInt from hrg.2.2) (show p0.toInt < (pf 13).toInt from (oz_7319c2f99d g1 hrg.2.1)) (show (pf 13).toInt ≤ 2100 from g2) htk (FsI.le (N' := (pf 13).toInt) hfs (by omega)) _) hT (pr := []) (pcs := [wdP cs h r g tf ta pf na ma wa cf ca ef ea xf xa]) hw px_X.tt (px_recv hT hw 0 0 rfl rfl rfl) m13_9 m13_6 m13_8 ms_12_15 m1_21 q_Mpg_first ⟨Nat.le_of_ble_eq_true rfl, Nat.le_of_ble_eq_true rfl⟩ hl.1 rfl (Nat.le_of_ble_eq_true rfl) d_Mpg_checkPlace_100 ⟨Nat.le_of_ble_eq_true rfl, Nat.le_of_ble_eq_true rfl⟩) hw hA (fun v555 p554 H locs hp554 hw => ?_) | (refine px_calli (pr := []) (px_runV (As := [.int p0]) (rest := [.int 6, .ref h]) S (c_mp_first l D cs h r g tf ta pf na ma wa cf ca ef ea xf xa p0  (show 0 ≤ p0.toInt from by first | exact hrg.2.2 | omega) (show p0.toInt < (pf 13).toInt from by first | exact oz_7319c2f99d g1 hrg.2.1 | omega) (show (pf 13).toInt ≤ 2100 from by first | exact g2 | omega) htk (FsI.le (N' := (pf 13).toInt) hfs (by omega)) _) hT (pr := []) (pcs := [wdP cs h r g tf ta pf na ma wa cf ca ef ea xf xa]) hw px_X.tt (px_recv hT hw 0 0 rfl rfl rfl) m13_9 m13_6 m13_8 ms_12_15 m1_21 q_Mpg_first ⟨Nat.le_of_ble_eq_true rfl, Nat.le_of_ble_eq_true rfl⟩ hl.1 rfl (Nat.le_of_ble_eq_true rfl) d_Mpg_checkPlace_100 ⟨Nat.le_of_ble_eq_true rfl, Nat.le_of_ble_eq_true rfl⟩) hw hA (fun v555 p554 H locs hp554 hw => ?_))
                  obtain ⟨rfl, e556, e557, e558⟩ := hp554
                  have e556 : 0 ≤ v555.toInt := e556
                  have e557 : v555.toInt < (tf 6).toInt := e557
                  have e558 : R_mp_first na p0 v555 := e558
                  have lv555 := Int32.le_toInt v555
                  have uv555 := Int32.toInt_lt v555
                  first | refine px_callv (pr := []) (px_runV (As := [.int 6, .int v555]) (rest := []) S (c_mp_bad l D cs h r g tf ta pf na ma wa ca ef ea xf xa cf 6 v555  (show 1 ≤ (6 : Int) from oz_2c1e0e66aa) (show 0 ≤ v555.toInt from e556) (show v555.toInt < (tf 6).toInt from e557) htk hwr _) hT (pr := []) (pcs := [wdP cs h r g tf ta pf na ma wa cf ca ef ea xf xa]) hw px_X.tt (px_recv hT hw 0 0 rfl rfl rfl) m12_173 m12_170 m12_172 ms_11_12 m1_21 q_Mpg_bad ⟨Nat.le_of_ble_eq_true rfl, Nat.le_of_ble_eq_true rfl⟩ hl.1 rfl (Nat.le_of_ble_eq_true rfl) d_Mpg_checkPlace_103 ⟨Nat.le_of_ble_eq_true rfl, Nat.le_of_ble_eq_true rfl⟩) hw hA (fun p561 H locs hp561 hw => ?_) | (refine px_callv (pr := []) (px_runV (As := [.int 6, .int v555]) (rest := []) S (c_mp_bad l D cs h r g tf ta pf na ma wa ca ef ea xf xa cf 6 v555  (show 1 ≤ (6 : Int) from by first | exact oz_2c1e0e66aa | omega) (show 0 ≤ v555.toInt from by first | exact e556 | omega) (show v555.toInt < (tf 6).toInt from by first | exact e557 | omega) htk hwr _) hT (pr := []) (pcs := [wdP cs h r g tf ta pf na ma wa cf ca ef ea xf xa]) hw px_X.tt (px_recv hT hw 0 0 rfl rfl rfl) m12_173 m12_170 m12_172 ms_11_12 m1_21 q_Mpg_bad ⟨Nat.le_of_ble_eq_true rfl, Nat.le_of_ble_eq_true rfl⟩ hl.1 rfl (Nat.le_of_ble_eq_true rfl) d_Mpg_checkPlace_103 ⟨Nat.le_of_ble_eq_true rfl, Nat.le_of_ble_eq_true rfl⟩) hw hA (fun p561 H locs hp561 hw => ?_))
                  obtain ⟨cf560, rfl, e563, e564, e565, e566, e567, e568, e569, e570, e571, e572, e573, e574, e575, e576, e577, e578, e579, e580, e581, e582⟩ := hp561
                  have e563 : KpE cf cf560 := e563
                  have hke := (hke).tr e563
                  have hkz_e563 := e563.2
                  have e564 : WrV cf560 (tf 6).toInt := e564
                  have hwr := e564
                  have hw0_e564 := hwr.1
                  have e565 : 1 ≤ (cf560 30).toInt := e565
                  have e566 : (cf560 33).toInt = (cf 33).toInt := e566
                  have e567 : (cf560 38).toInt = (cf 38).toInt := e567
                  have e568 : (cf560 48).toInt = (cf 48).toInt := e568
                  have e569 : (cf560 46).toInt = (cf 46).toInt := e569
                  have e570 : (cf560 47).toInt = (cf 47).toInt := e570
                  have e571 : (cf560 57).toInt = (cf 57).toInt := e571
                  have e572 : (cf560 37).toInt = (cf 37).toInt := e572
                  have e573 : (cf560 42).toInt = (cf 42).toInt := e573
                  have e574 : (cf560 43).toInt = (cf 43).toInt := e574
                  have e575 : (cf560 44).toInt = (cf 44).toInt := e575
                  have e576 : (cf560 45).toInt = (cf 45).toInt := e576
                  have e577 : (cf560 54).toInt = (cf 54).toInt := e577
                  have e578 : (cf560 55).toInt = (cf 55).toInt := e578
                  have e579 : (cf560 58).toInt = (cf 58).toInt := e579
                  have e580 : (cf560 59).toInt = (cf 59).toInt := e580
                  have e581 : (cf560 41).toInt = (cf 41).toInt := e581
                  have e582 : R_mp_bad (6 : Int32) v555 cf cf560 := e582
                  first | exact px_vret S hr hlk hAe hw (Nat.le_of_ble_eq_true rfl) (Nat.le_of_ble_eq_true rfl) (⟨cf560, rfl, (show KpE cf cf560 from hke), (show WrV cf560 (tf 6).toInt from hwr), (show (cf560 33).toInt = (cf 33).toInt from e566), (show (cf560 38).toInt = (cf 38).toInt from e567), (show (cf560 48).toInt = (cf 48).toInt from e568), (show (cf560 46).toInt = (cf 46).toInt from e569), (show (cf560 47).toInt = (cf 47).toInt from e570), (show (cf560 57).toInt = (cf 57).toInt from e571), (show ZPl cf560 na ma p0 p1.toInt from (zr_no (by omega))), (show R_mp_checkPlace ta na ca p0 p1 cf cf560 from (Or.inl (Or.inr ⟨nc1, Or.inl ⟨nc352, z354, ez354, Or.inr ⟨nc355, z406, ez406, Or.inr ⟨nc407, Or.inl ⟨nc516, z518, ez518, Or.inr ⟨nc519, Or.inl ⟨nc551, v555, e558, cf560, e582, rfl⟩⟩⟩⟩⟩⟩⟩)))⟩) d_Mpg_checkPlace_106 | (exact px_vret S hr hlk hAe hw (Nat.le_of_ble_eq_true rfl) (Nat.le_of_ble_eq_true rfl) (⟨cf560, rfl, (show KpE cf cf560 from hke), (show WrV cf560 (tf 6).toInt from hwr), (show (cf560 33).toInt = (cf 33).toInt from by first | exact e566 | omega), (show (cf560 38).toInt = (cf 38).toInt from by first | exact e567 | omega), (show (cf560 48).toInt = (cf 48).toInt from by first | exact e568 | omega), (show (cf560 46).toInt = (cf 46).toInt from by first | exact e569 | omega), (show (cf560 47).toInt = (cf 47).toInt from by first | exact e570 | omega), (show (cf560 57).toInt = (cf 57).toInt from by first | exact e571 | omega), (show ZPl cf560 na ma p0 p1.toInt from (zr_no (by omega))), (show R_mp_checkPlace ta na ca p0 p1 cf cf560 from (Or.inl (Or.inr ⟨nc1, Or.inl ⟨nc352, z354, ez354, Or.inr ⟨nc355, z406, ez406, Or.inr ⟨nc407, Or.inl ⟨nc516, z518, ez518, Or.inr ⟨nc519, Or.inl ⟨nc551, v555, e558, cf560, e582, rfl⟩⟩⟩⟩⟩⟩⟩)))⟩) d_Mpg_checkPlace_106)
              · have nc551 : p1.toInt = (1 : Int) := (i_eq (x := p1) (y := 1)).mp c551
                refine lv_aload_n S.x S.b d_Mpg_checkPlace_65 rfl (lv_at hl 1 rfl) ?_
                refine gP_35 S hT hw 0 rfl m10_24 d_Mpg_checkPlace_66 ?_
                refine lv_aload_n S.x S.b d_Mpg_checkPlace_69 rfl (lv_at hl 1 rfl) ?_
                refine lv_aload_n S.x S.b d_Mpg_checkPlace_70 rfl (lv_at hl 1 rfl) ?_
                refine gP_15 S hT hw 0 rfl m9_239 d_Mpg_checkPlace_71 ?_
                refine lv_iload_n S.x S.b d_Mpg_checkPlace_74 rfl (lv_at hl 2 rfl) ?_
                refine px_iald S hT hw 0 11 (n := 2100) (f := (na 15)) rfl gp_15 (x := p0) (vp_in_iff.mpr (by first | exact oz_a7e05de1cd hrg.2.2 hrg.2.1 g1 g2 | (constructor <;> omega))) d_Mpg_checkPlace_75 ?_
                refine lv_topi (fun z583 ez583 => ?_)
                have lz583 := Int32.le_toInt z583
                have uz583 := Int32.toInt_lt z583
                have rz583 := EcV.tok hec_p0 ez583
                refine lv_iconst (v := 0) S.x S.b d_Mpg_checkPlace_76 (by decide) ?_
                first | refine px_calli (pr := []) (px_runV (As := [.int z583, .int 0]) (rest := [.ref (r 35)]) S (c_mp_find l D cs h r g tf ta pf na ma wa cf ca ef ea xf xa z583 0  (show 0 ≤ z583.toInt from rz583.1) (show z583.toInt < (tf 6).toInt from (oz_7fe81129bf rz583.2)) (show (tf 6).toInt ≤ 2049 from g3) (show 0 ≤ (0 : Int) from oz_5a341f00aa) (show 0 ≤ (cf 33).toInt from (oz_f3ebed1ad0 g4 g5)) htk (KnT.eq hkt (by omega)) _) hT (pr := []) (pcs := [wdP cs h r g tf ta pf na ma wa cf ca ef ea xf xa]) hw px_X.tt (px_recv hT hw 0 0 rfl rfl rfl) m12_181 m12_178 m12_180 ms_11_14 m1_21 q_Mpg_find ⟨Nat.le_of_ble_eq_true rfl, Nat.le_of_ble_eq_true rfl⟩ hl.1 rfl (Nat.le_of_ble_eq_true rfl) d_Mpg_checkPlace_77 ⟨Nat.le_of_ble_eq_true rfl, Nat.le_of_ble_eq_true rfl⟩) hw hA (fun v585 p584 H locs hp584 hw => ?_) | (refine px_calli (pr := []) (px_runV (As := [.int z583, .int 0]) (rest := [.ref (r 35)]) S (c_mp_find l D cs h r g tf ta pf na ma wa cf ca ef ea xf xa z583 0  (show 0 ≤ z583.toInt from by first | exact rz583.1 | omega) (show z583.toInt < (tf 6).toInt from by first | exact oz_7fe81129bf rz583.2 | omega) (show (tf 6).toInt ≤ 2049 from by first | exact g3 | omega) (show 0 ≤ (0 : Int) from by first | exact oz_5a341f00aa | omega) (show 0 ≤ (cf 33).toInt from by first | exact oz_f3ebed1ad0 g4 g5 | omega) htk (KnT.eq hkt (by omega)) _) hT (pr := []) (pcs := [wdP cs h r g tf ta pf na ma wa cf ca ef ea xf xa]) hw px_X.tt (px_recv hT hw 0 0 rfl rfl rfl) m12_181 m12_178 m12_180 ms_11_14 m1_21 q_Mpg_find ⟨Nat.le_of_ble_eq_true rfl, Nat.le_of_ble_eq_true rfl⟩ hl.1 rfl (Nat.le_of_ble_eq_true rfl) d_Mpg_checkPlace_77 ⟨Nat.le_of_ble_eq_true rfl, Nat.le_of_ble_eq_true rfl⟩) hw hA (fun v585 p584 H locs hp584 hw => ?_))
                obtain ⟨rfl, e586, e587, e588, e589, e590⟩ := hp584
                have e586 : -1 ≤ v585.toInt := e586
                have e587 : v585.toInt < (cf 33).toInt := e587
                have e588 : 0 ≤ v585.toInt → (0 : Int) ≤ v585.toInt := e588
                have e589 : FndV ta ca (cf 33).toInt z583 (0 : Int) v585.toInt := e589
                have hfd := e589
                have e590 : R_mp_find ta cf ca z583 (0 : Int32) v585 := e590
                have lv585 := Int32.le_toInt v585
                have uv585 := Int32.toInt_lt v585
                have hps := nm_pos (hnj (by omega)) (by omega) hfd ez583 (by omega)
                refine px_iald S hT hw 0 24 (n := 1100) (f := (ca 35)) rfl gp_35 (x := v585) (vp_in_iff.mpr (by constructor <;> omega)) d_Mpg_checkPlace_80 ?_
                refine lv_topi (fun z591 ez591 => ?_)
                have lz591 := Int32.le_toInt z591
                have uz591 := Int32.toInt_lt z591
                refine lv_iconst (v := 1) S.x S.b d_Mpg_checkPlace_81 (by decide) ?_
                refine lv_icmp_ne (tgt := 89) S.x S.b d_Mpg_checkPlace_82 (by decide) (fun c592 => ?_) (fun c592 => ?_)
                · have nc592 : ¬ z591.toInt = (1 : Int) := mt (i_eq (x := z591) (y := 1)).mpr c592
                  refine lv_iconst (v := 0) S.x S.b d_Mpg_checkPlace_89 (by decide) ?_
                  refine lv_istore_n (lv' := [(3, .int 0), (0, .ref h), (1, .int p0), (2, .int p1)]) S.x S.b d_Mpg_checkPlace_90 rfl hl (by decide) rfl (fun ls hl => ?_)
                  refine lv_iload_n S.x S.b d_Mpg_checkPlace_91 rfl (lv_at hl 0 rfl) ?_
                  refine lv_if_ne (tgt := 106) S.x S.b d_Mpg_checkPlace_92 (by decide) (fun c594 => ?_) (fun c594 => ?_)
                  · exact absurd c594 (by decide)
                  ·
                    refine lv_aload_n S.x S.b d_Mpg_checkPlace_95 rfl (lv_at hl 1 rfl) ?_
                    refine lv_bipush (v := 6) S.x S.b d_Mpg_checkPlace_96 (by decide) ?_
                    refine lv_aload_n S.x S.b d_Mpg_checkPlace_98 rfl (lv_at hl 1 rfl) ?_
                    refine lv_iload_n S.x S.b d_Mpg_checkPlace_99 rfl (lv_at hl 2 rfl) ?_
                    first | refine px_calli (pr := []) (px_runV (As := [.int p0]) (rest := [.int 6, .ref h]) S (c_mp_first l D cs h r g tf ta pf na ma wa cf ca ef ea xf xa p0  (show 0 ≤ p0.toInt from hrg.2.2) (show p0.toInt < (pf 13).toInt from (oz_7319c2f99d g1 hrg.2.1)) (show (pf 13).toInt ≤ 2100 from g2) htk (FsI.le (N' := (pf 13).toInt) hfs (by omega)) _) hT (pr := []) (pcs := [wdP cs h r g tf ta pf na ma wa cf ca ef ea xf xa]) hw px_X.tt (px_recv hT hw 0 0 rfl rfl rfl) m13_9 m13_6 m13_8 ms_12_15 m1_21 q_Mpg_first ⟨Nat.le_of_ble_eq_true rfl, Nat.le_of_ble_eq_true rfl⟩ hl.1 rfl (Nat.le_of_ble_eq_true rfl) d_Mpg_checkPlace_100 ⟨Nat.le_of_ble_eq_true rfl, Nat.le_of_ble_eq_true rfl⟩) hw hA (fun v596 p595 H locs hp595 hw => ?_) | (refine px_calli (pr := []) (px_runV (As := [.int p0]) (rest := [.int 6, .ref h]) S (c_mp_first l D cs h r g tf ta pf na ma wa cf ca ef ea xf xa p0  (show 0 ≤ p0.toInt from by first | exact hrg.2.2 | omega) (show p0.toInt < (pf 13).toInt from by first | exact oz_7319c2f99d g1 hrg.2.1 | omega) (show (pf 13).toInt ≤ 2100 from by first | exact g2 | omega) htk (FsI.le (N' := (pf 13).toInt) hfs (by omega)) _) hT (pr := []) (pcs := [wdP cs h r g tf ta pf na ma wa cf ca ef ea xf xa]) hw px_X.tt (px_recv hT hw 0 0 rfl rfl rfl) m13_9 m13_6 m13_8 ms_12_15 m1_21 q_Mpg_first ⟨Nat.le_of_ble_eq_true rfl, Nat.le_of_ble_eq_true rfl⟩ hl.1 rfl (Nat.le_of_ble_eq_true rfl) d_Mpg_checkPlace_100 ⟨Nat.le_of_ble_eq_true rfl, Nat.le_of_ble_eq_true rfl⟩) hw hA (fun v596 p595 H locs hp595 hw => ?_))
                    obtain ⟨rfl, e597, e598, e599⟩ := hp595
                    have e597 : 0 ≤ v596.toInt := e597
                    have e598 : v596.toInt < (tf 6).toInt := e598
                    have e599 : R_mp_first na p0 v596 := e599
                    have lv596 := Int32.le_toInt v596
                    have uv596 := Int32.toInt_lt v596
                    first | refine px_callv (pr := []) (px_runV (As := [.int 6, .int v596]) (rest := []) S (c_mp_bad l D cs h r g tf ta pf na ma wa ca ef ea xf xa cf 6 v596  (show 1 ≤ (6 : Int) from oz_2c1e0e66aa) (show 0 ≤ v596.toInt from e597) (show v596.toInt < (tf 6).toInt from e598) htk hwr _) hT (pr := []) (pcs := [wdP cs h r g tf ta pf na ma wa cf ca ef ea xf xa]) hw px_X.tt (px_recv hT hw 0 0 rfl rfl rfl) m12_173 m12_170 m12_172 ms_11_12 m1_21 q_Mpg_bad ⟨Nat.le_of_ble_eq_true rfl, Nat.le_of_ble_eq_true rfl⟩ hl.1 rfl (Nat.le_of_ble_eq_true rfl) d_Mpg_checkPlace_103 ⟨Nat.le_of_ble_eq_true rfl, Nat.le_of_ble_eq_true rfl⟩) hw hA (fun p602 H locs hp602 hw => ?_) | (refine px_callv (pr := []) (px_runV (As := [.int 6, .int v596]) (rest := []) S (c_mp_bad l D cs h r g tf ta pf na ma wa ca ef ea xf xa cf 6 v596  (show 1 ≤ (6 : Int) from by first | exact oz_2c1e0e66aa | omega) (show 0 ≤ v596.toInt from by first | exact e597 | omega) (show v596.toInt < (tf 6).toInt from by first | exact e598 | omega) htk hwr _) hT (pr := []) (pcs := [wdP cs h r g tf ta pf na ma wa cf ca ef ea xf xa]) hw px_X.tt (px_recv hT hw 0 0 rfl rfl rfl) m12_173 m12_170 m12_172 ms_11_12 m1_21 q_Mpg_bad ⟨Nat.le_of_ble_eq_true rfl, Nat.le_of_ble_eq_true rfl⟩ hl.1 rfl (Nat.le_of_ble_eq_true rfl) d_Mpg_checkPlace_103 ⟨Nat.le_of_ble_eq_true rfl, Nat.le_of_ble_eq_true rfl⟩) hw hA (fun p602 H locs hp602 hw => ?_))
                    obtain ⟨cf601, rfl, e604, e605, e606, e607, e608, e609, e610, e611, e612, e613, e614, e615, e616, e617, e618, e619, e620, e621, e622, e623⟩ := hp602
                    have e604 : KpE cf cf601 := e604
                    have hke := (hke).tr e604
                    have hkz_e604 := e604.2
                    have e605 : WrV cf601 (tf 6).toInt := e605
                    have hwr := e605
                    have hw0_e605 := hwr.1
                    have e606 : 1 ≤ (cf601 30).toInt := e606
                    have e607 : (cf601 33).toInt = (cf 33).toInt := e607
                    have e608 : (cf601 38).toInt = (cf 38).toInt := e608
                    have e609 : (cf601 48).toInt = (cf 48).toInt := e609
                    have e610 : (cf601 46).toInt = (cf 46).toInt := e610
                    have e611 : (cf601 47).toInt = (cf 47).toInt := e611
                    have e612 : (cf601 57).toInt = (cf 57).toInt := e612
                    have e613 : (cf601 37).toInt = (cf 37).toInt := e613
                    have e614 : (cf601 42).toInt = (cf 42).toInt := e614
                    have e615 : (cf601 43).toInt = (cf 43).toInt := e615
                    have e616 : (cf601 44).toInt = (cf 44).toInt := e616
                    have e617 : (cf601 45).toInt = (cf 45).toInt := e617
                    have e618 : (cf601 54).toInt = (cf 54).toInt := e618
                    have e619 : (cf601 55).toInt = (cf 55).toInt := e619
                    have e620 : (cf601 58).toInt = (cf 58).toInt := e620
                    have e621 : (cf601 59).toInt = (cf 59).toInt := e621
                    have e622 : (cf601 41).toInt = (cf 41).toInt := e622
                    have e623 : R_mp_bad (6 : Int32) v596 cf cf601 := e623
                    first | exact px_vret S hr hlk hAe hw (Nat.le_of_ble_eq_true rfl) (Nat.le_of_ble_eq_true rfl) (⟨cf601, rfl, (show KpE cf cf601 from hke), (show WrV cf601 (tf 6).toInt from hwr), (show (cf601 33).toInt = (cf 33).toInt from e607), (show (cf601 38).toInt = (cf 38).toInt from e608), (show (cf601 48).toInt = (cf 48).toInt from e609), (show (cf601 46).toInt = (cf 46).toInt from e610), (show (cf601 47).toInt = (cf 47).toInt from e611), (show (cf601 57).toInt = (cf 57).toInt from e612), (show ZPl cf601 na ma p0 p1.toInt from (zr_no (by omega))), (show R_mp_checkPlace ta na ca p0 p1 cf cf601 from (Or.inl (Or.inr ⟨nc1, Or.inl ⟨nc352, z354, ez354, Or.inr ⟨nc355, z406, ez406, Or.inr ⟨nc407, Or.inl ⟨nc516, z518, ez518, Or.inr ⟨nc519, Or.inr ⟨nc551, z583, ez583, v585, e590, z591, ez591, Or.inl ⟨nc592, v596, e599, cf601, e623, rfl⟩⟩⟩⟩⟩⟩⟩⟩)))⟩) d_Mpg_checkPlace_106 | (exact px_vret S hr hlk hAe hw (Nat.le_of_ble_eq_true rfl) (Nat.le_of_ble_eq_true rfl) (⟨cf601, rfl, (show KpE cf cf601 from hke), (show WrV cf601 (tf 6).toInt from hwr), (show (cf601 33).toInt = (cf 33).toInt from by first | exact e607 | omega), (show (cf601 38).toInt = (cf 38).toInt from by first | exact e608 | omega), (show (cf601 48).toInt = (cf 48).toInt from by first | exact e609 | omega), (show (cf601 46).toInt = (cf 46).toInt from by first | exact e610 | omega), (show (cf601 47).toInt = (cf 47).toInt from by first | exact e611 | omega), (show (cf601 57).toInt = (cf 57).toInt from by first | exact e612 | omega), (show ZPl cf601 na ma p0 p1.toInt from (zr_no (by omega))), (show R_mp_checkPlace ta na ca p0 p1 cf cf601 from (Or.inl (Or.inr ⟨nc1, Or.inl ⟨nc352, z354, ez354, Or.inr ⟨nc355, z406, ez406, Or.inr ⟨nc407, Or.inl ⟨nc516, z518, ez518, Or.inr ⟨nc519, Or.inr ⟨nc551, z583, ez583, v585, e590, z591, ez591, Or.inl ⟨nc592, v596, e599, cf601, e623, rfl⟩⟩⟩⟩⟩⟩⟩⟩)))⟩) d_Mpg_checkPlace_106)
                · have nc592 : z591.toInt = (1 : Int) := (i_eq (x := z591) (y := 1)).mp c592
                  refine lv_iconst (v := 1) S.x S.b d_Mpg_checkPlace_85 (by decide) ?_
                  refine lv_goto (tgt := 90) S.x S.b d_Mpg_checkPlace_86 (by decide) ?_
                  refine lv_istore_n (lv' := [(3, .int 1), (0, .ref h), (1, .int p0), (2, .int p1)]) S.x S.b d_Mpg_checkPlace_90 rfl hl (by decide) rfl (fun ls hl => ?_)
                  refine lv_iload_n S.x S.b d_Mpg_checkPlace_91 rfl (lv_at hl 0 rfl) ?_
                  refine lv_if_ne (tgt := 106) S.x S.b d_Mpg_checkPlace_92 (by decide) (fun c624 => ?_) (fun c624 => ?_)
                  ·
                    exact px_vret S hr hlk hAe hw (Nat.le_of_ble_eq_true rfl) (Nat.le_of_ble_eq_true rfl) (⟨cf, rfl, (show KpE cf cf from hke), (show WrV cf (tf 6).toInt from hwr), (show (cf 33).toInt = (cf 33).toInt from rfl), (show (cf 38).toInt = (cf 38).toInt from rfl), (show (cf 48).toInt = (cf 48).toInt from rfl), (show (cf 46).toInt = (cf 46).toInt from rfl), (show (cf 47).toInt = (cf 47).toInt from rfl), (show (cf 57).toInt = (cf 57).toInt from rfl), (show ZPl cf na ma p0 p1.toInt from (fun _ => ⟨⟨by omega, by omega⟩, (by first | exact Or.inl (by omega) | exact Or.inr ⟨by omega, Or.inl (by omega)⟩ | exact Or.inr ⟨by omega, Or.inr ⟨by omega, nm_pl (hnj (by omega)) (by omega) hfd ez583 (by omega) hks (by omega) ez591 (by omega)⟩⟩)⟩)), (show R_mp_checkPlace ta na ca p0 p1 cf cf from (Or.inl (Or.inr ⟨nc1, Or.inl ⟨nc352, z354, ez354, Or.inr ⟨nc355, z406, ez406, Or.inr ⟨nc407, Or.inl ⟨nc516, z518, ez518, Or.inr ⟨nc519, Or.inr ⟨nc551, z583, ez583, v585, e590, z591, ez591, Or.inr ⟨nc592, rfl⟩⟩⟩⟩⟩⟩⟩⟩)))⟩) d_Mpg_checkPlace_106
                  · exact absurd c624 (by decide)
          · have nc516 : p1.toInt = (0 : Int) := (i_eq (x := p1) (y := 0)).mp c516
            refine lv_iconst (v := 1) S.x S.b d_Mpg_checkPlace_44 (by decide) ?_
            refine lv_goto (tgt := 49) S.x S.b d_Mpg_checkPlace_45 (by decide) ?_
            refine lv_istore_n (lv' := [(3, .int 1), (0, .ref h), (1, .int p0), (2, .int p1)]) S.x S.b d_Mpg_checkPlace_49 rfl hl (by decide) rfl (fun ls hl => ?_)
            refine lv_aload_n S.x S.b d_Mpg_checkPlace_50 rfl (lv_at hl 1 rfl) ?_
            refine gP_14 S hT hw 0 rfl m9_238 d_Mpg_checkPlace_51 ?_
            refine lv_iload_n S.x S.b d_Mpg_checkPlace_54 rfl (lv_at hl 2 rfl) ?_
            refine px_bald S hT hw 0 10 (n := 2100) (f := (na 14)) rfl gp_14 (x := p0) (vp_in_iff.mpr (by first | exact oz_a7e05de1cd hrg.2.2 hrg.2.1 g1 g2 | (constructor <;> omega))) d_Mpg_checkPlace_55 ?_
            refine lv_topi (fun z625 ez625 => ?_)
            have lz625 := Int32.le_toInt z625
            have uz625 := Int32.toInt_lt z625
            have rz625 := EcV.kd hec_p0 ez625
            refine lv_iconst (v := 2) S.x S.b d_Mpg_checkPlace_56 (by decide) ?_
            refine lv_icmp_ne (tgt := 91) S.x S.b d_Mpg_checkPlace_57 (by decide) (fun c626 => ?_) (fun c626 => ?_)
            · have nc626 : ¬ z625.toInt = (2 : Int) := mt (i_eq (x := z625) (y := 2)).mpr c626
              refine lv_iload_n S.x S.b d_Mpg_checkPlace_91 rfl (lv_at hl 0 rfl) ?_
              refine lv_if_ne (tgt := 106) S.x S.b d_Mpg_checkPlace_92 (by decide) (fun c628 => ?_) (fun c628 => ?_)
              ·
                exact px_vret S hr hlk hAe hw (Nat.le_of_ble_eq_true rfl) (Nat.le_of_ble_eq_true rfl) (⟨cf, rfl, (show KpE cf cf from hke), (show WrV cf (tf 6).toInt from hwr), (show (cf 33).toInt = (cf 33).toInt from rfl), (show (cf 38).toInt = (cf 38).toInt from rfl), (show (cf 48).toInt = (cf 48).toInt from rfl), (show (cf 46).toInt = (cf 46).toInt from rfl), (show (cf 47).toInt = (cf 47).toInt from rfl), (show (cf 57).toInt = (cf 57).toInt from rfl), (show ZPl cf na ma p0 p1.toInt from (fun _ => ⟨⟨by omega, by omega⟩, (by first | exact Or.inl (by omega) | exact Or.inr ⟨by omega, Or.inl (by omega)⟩ | exact Or.inr ⟨by omega, Or.inr ⟨by omega, nm_pl (hnj (by omega)) (by omega) hfd ez583 (by omega) hks (by omega) ez591 (by omega)⟩⟩)⟩)), (show R_mp_checkPlace ta na ca p0 p1 cf cf from (Or.inl (Or.inr ⟨nc1, Or.inl ⟨nc352, z354, ez354, Or.inr ⟨nc355, z406, ez406, Or.inr ⟨nc407, Or.inr ⟨nc516, z625, ez625, Or.inl ⟨nc626, rfl⟩⟩⟩⟩⟩⟩)))⟩) d_Mpg_checkPlace_106
              · exact absurd c628 (by decide)
            · have nc626 : z625.toInt = (2 : Int) := (i_eq (x := z625) (y := 2)).mp c626
              refine lv_iload_n S.x S.b d_Mpg_checkPlace_60 rfl (lv_at hl 3 rfl) ?_
              refine lv_iconst (v := 1) S.x S.b d_Mpg_checkPlace_61 (by decide) ?_
              refine lv_icmp_ne (tgt := 91) S.x S.b d_Mpg_checkPlace_62 (by decide) (fun c629 => ?_) (fun c629 => ?_)
              · have nc629 : ¬ p1.toInt = (1 : Int) := mt (i_eq (x := p1) (y := 1)).mpr c629
                refine lv_iload_n S.x S.b d_Mpg_checkPlace_91 rfl (lv_at hl 0 rfl) ?_
                refine lv_if_ne (tgt := 106) S.x S.b d_Mpg_checkPlace_92 (by decide) (fun c631 => ?_) (fun c631 => ?_)
                ·
                  exact px_vret S hr hlk hAe hw (Nat.le_of_ble_eq_true rfl) (Nat.le_of_ble_eq_true rfl) (⟨cf, rfl, (show KpE cf cf from hke), (show WrV cf (tf 6).toInt from hwr), (show (cf 33).toInt = (cf 33).toInt from rfl), (show (cf 38).toInt = (cf 38).toInt from rfl), (show (cf 48).toInt = (cf 48).toInt from rfl), (show (cf 46).toInt = (cf 46).toInt from rfl), (show (cf 47).toInt = (cf 47).toInt from rfl), (show (cf 57).toInt = (cf 57).toInt from rfl), (show ZPl cf na ma p0 p1.toInt from (fun _ => ⟨⟨by omega, by omega⟩, (by first | exact Or.inl (by omega) | exact Or.inr ⟨by omega, Or.inl (by omega)⟩ | exact Or.inr ⟨by omega, Or.inr ⟨by omega, nm_pl (hnj (by omega)) (by omega) hfd ez583 (by omega) hks (by omega) ez591 (by omega)⟩⟩)⟩)), (show R_mp_checkPlace ta na ca p0 p1 cf cf from (Or.inl (Or.inr ⟨nc1, Or.inl ⟨nc352, z354, ez354, Or.inr ⟨nc355, z406, ez406, Or.inr ⟨nc407, Or.inr ⟨nc516, z625, ez625, Or.inr ⟨nc626, Or.inl ⟨nc629, rfl⟩⟩⟩⟩⟩⟩⟩)))⟩) d_Mpg_checkPlace_106
                · exact absurd c631 (by decide)
              · have nc629 : p1.toInt = (1 : Int) := (i_eq (x := p1) (y := 1)).mp c629
                refine lv_aload_n S.x S.b d_Mpg_checkPlace_65 rfl (lv_at hl 1 rfl) ?_
                refine gP_35 S hT hw 0 rfl m10_24 d_Mpg_checkPlace_66 ?_
                refine lv_aload_n S.x S.b d_Mpg_checkPlace_69 rfl (lv_at hl 1 rfl) ?_
                refine lv_aload_n S.x S.b d_Mpg_checkPlace_70 rfl (lv_at hl 1 rfl) ?_
                refine gP_15 S hT hw 0 rfl m9_239 d_Mpg_checkPlace_71 ?_
                refine lv_iload_n S.x S.b d_Mpg_checkPlace_74 rfl (lv_at hl 2 rfl) ?_
                refine px_iald S hT hw 0 11 (n := 2100) (f := (na 15)) rfl gp_15 (x := p0) (vp_in_iff.mpr (by first | exact oz_a7e05de1cd hrg.2.2 hrg.2.1 g1 g2 | (constructor <;> omega))) d_Mpg_checkPlace_75 ?_
                refine lv_topi (fun z632 ez632 => ?_)
                have lz632 := Int32.le_toInt z632
                have uz632 := Int32.toInt_lt z632
                have rz632 := EcV.tok hec_p0 ez632
                refine lv_iconst (v := 0) S.x S.b d_Mpg_checkPlace_76 (by decide) ?_
                first | refine px_calli (pr := []) (px_runV (As := [.int z632, .int 0]) (rest := [.ref (r 35)]) S (c_mp_find l D cs h r g tf ta pf na ma wa cf ca ef ea xf xa z632 0  (show 0 ≤ z632.toInt from rz632.1) (show z632.toInt < (tf 6).toInt from (oz_7fe81129bf rz632.2)) (show (tf 6).toInt ≤ 2049 from g3) (show 0 ≤ (0 : Int) from oz_5a341f00aa) (show 0 ≤ (cf 33).toInt from (oz_f3ebed1ad0 g4 g5)) htk (KnT.eq hkt (by omega)) _) hT (pr := []) (pcs := [wdP cs h r g tf ta pf na ma wa cf ca ef ea xf xa]) hw px_X.tt (px_recv hT hw 0 0 rfl rfl rfl) m12_181 m12_178 m12_180 ms_11_14 m1_21 q_Mpg_find ⟨Nat.le_of_ble_eq_true rfl, Nat.le_of_ble_eq_true rfl⟩ hl.1 rfl (Nat.le_of_ble_eq_true rfl) d_Mpg_checkPlace_77 ⟨Nat.le_of_ble_eq_true rfl, Nat.le_of_ble_eq_true rfl⟩) hw hA (fun v634 p633 H locs hp633 hw => ?_) | (refine px_calli (pr := []) (px_runV (As := [.int z632, .int 0]) (rest := [.ref (r 35)]) S (c_mp_find l D cs h r g tf ta pf na ma wa cf ca ef ea xf xa z632 0  (show 0 ≤ z632.toInt from by first | exact rz632.1 | omega) (show z632.toInt < (tf 6).toInt from by first | exact oz_7fe81129bf rz632.2 | omega) (show (tf 6).toInt ≤ 2049 from by first | exact g3 | omega) (show 0 ≤ (0 : Int) from by first | exact oz_5a341f00aa | omega) (show 0 ≤ (cf 33).toInt from by first | exact oz_f3ebed1ad0 g4 g5 | omega) htk (KnT.eq hkt (by omega)) _) hT (pr := []) (pcs := [wdP cs h r g tf ta pf na ma wa cf ca ef ea xf xa]) hw px_X.tt (px_recv hT hw 0 0 rfl rfl rfl) m12_181 m12_178 m12_180 ms_11_14 m1_21 q_Mpg_find ⟨Nat.le_of_ble_eq_true rfl, Nat.le_of_ble_eq_true rfl⟩ hl.1 rfl (Nat.le_of_ble_eq_true rfl) d_Mpg_checkPlace_77 ⟨Nat.le_of_ble_eq_true rfl, Nat.le_of_ble_eq_true rfl⟩) hw hA (fun v634 p633 H locs hp633 hw => ?_))
                obtain ⟨rfl, e635, e636, e637, e638, e639⟩ := hp633
                have e635 : -1 ≤ v634.toInt := e635
                have e636 : v634.toInt < (cf 33).toInt := e636
                have e637 : 0 ≤ v634.toInt → (0 : Int) ≤ v634.toInt := e637
                have e638 : FndV ta ca (cf 33).toInt z632 (0 : Int) v634.toInt := e638
                have hfd := e638
                have e639 : R_mp_find ta cf ca z632 (0 : Int32) v634 := e639
                have lv634 := Int32.le_toInt v634
                have uv634 := Int32.toInt_lt v634
                have hps := nm_pos (hnj (by omega)) (by omega) hfd ez632 (by omega)
                refine px_iald S hT hw 0 24 (n := 1100) (f := (ca 35)) rfl gp_35 (x := v634) (vp_in_iff.mpr (by constructor <;> omega)) d_Mpg_checkPlace_80 ?_
                refine lv_topi (fun z640 ez640 => ?_)
                have lz640 := Int32.le_toInt z640
                have uz640 := Int32.toInt_lt z640
                refine lv_iconst (v := 1) S.x S.b d_Mpg_checkPlace_81 (by decide) ?_
                refine lv_icmp_ne (tgt := 89) S.x S.b d_Mpg_checkPlace_82 (by decide) (fun c641 => ?_) (fun c641 => ?_)
                · have nc641 : ¬ z640.toInt = (1 : Int) := mt (i_eq (x := z640) (y := 1)).mpr c641
                  refine lv_iconst (v := 0) S.x S.b d_Mpg_checkPlace_89 (by decide) ?_
                  refine lv_istore_n (lv' := [(3, .int 0), (0, .ref h), (1, .int p0), (2, .int p1)]) S.x S.b d_Mpg_checkPlace_90 rfl hl (by decide) rfl (fun ls hl => ?_)
                  refine lv_iload_n S.x S.b d_Mpg_checkPlace_91 rfl (lv_at hl 0 rfl) ?_
                  refine lv_if_ne (tgt := 106) S.x S.b d_Mpg_checkPlace_92 (by decide) (fun c643 => ?_) (fun c643 => ?_)
                  · exact absurd c643 (by decide)
                  ·
                    refine lv_aload_n S.x S.b d_Mpg_checkPlace_95 rfl (lv_at hl 1 rfl) ?_
                    refine lv_bipush (v := 6) S.x S.b d_Mpg_checkPlace_96 (by decide) ?_
                    refine lv_aload_n S.x S.b d_Mpg_checkPlace_98 rfl (lv_at hl 1 rfl) ?_
                    refine lv_iload_n S.x S.b d_Mpg_checkPlace_99 rfl (lv_at hl 2 rfl) ?_
                    first | refine px_calli (pr := []) (px_runV (As := [.int p0]) (rest := [.int 6, .ref h]) S (c_mp_first l D cs h r g tf ta pf na ma wa cf ca ef ea xf xa p0  (show 0 ≤ p0.toInt from hrg.2.2) (show p0.toInt < (pf 13).toInt from (oz_7319c2f99d g1 hrg.2.1)) (show (pf 13).toInt ≤ 2100 from g2) htk (FsI.le (N' := (pf 13).toInt) hfs (by omega)) _) hT (pr := []) (pcs := [wdP cs h r g tf ta pf na ma wa cf ca ef ea xf xa]) hw px_X.tt (px_recv hT hw 0 0 rfl rfl rfl) m13_9 m13_6 m13_8 ms_12_15 m1_21 q_Mpg_first ⟨Nat.le_of_ble_eq_true rfl, Nat.le_of_ble_eq_true rfl⟩ hl.1 rfl (Nat.le_of_ble_eq_true rfl) d_Mpg_checkPlace_100 ⟨Nat.le_of_ble_eq_true rfl, Nat.le_of_ble_eq_true rfl⟩) hw hA (fun v645 p644 H locs hp644 hw => ?_) | (refine px_calli (pr := []) (px_runV (As := [.int p0]) (rest := [.int 6, .ref h]) S (c_mp_first l D cs h r g tf ta pf na ma wa cf ca ef ea xf xa p0  (show 0 ≤ p0.toInt from by first | exact hrg.2.2 | omega) (show p0.toInt < (pf 13).toInt from by first | exact oz_7319c2f99d g1 hrg.2.1 | omega) (show (pf 13).toInt ≤ 2100 from by first | exact g2 | omega) htk (FsI.le (N' := (pf 13).toInt) hfs (by omega)) _) hT (pr := []) (pcs := [wdP cs h r g tf ta pf na ma wa cf ca ef ea xf xa]) hw px_X.tt (px_recv hT hw 0 0 rfl rfl rfl) m13_9 m13_6 m13_8 ms_12_15 m1_21 q_Mpg_first ⟨Nat.le_of_ble_eq_true rfl, Nat.le_of_ble_eq_true rfl⟩ hl.1 rfl (Nat.le_of_ble_eq_true rfl) d_Mpg_checkPlace_100 ⟨Nat.le_of_ble_eq_true rfl, Nat.le_of_ble_eq_true rfl⟩) hw hA (fun v645 p644 H locs hp644 hw => ?_))
                    obtain ⟨rfl, e646, e647, e648⟩ := hp644
                    have e646 : 0 ≤ v645.toInt := e646
                    have e647 : v645.toInt < (tf 6).toInt := e647
                    have e648 : R_mp_first na p0 v645 := e648
                    have lv645 := Int32.le_toInt v645
                    have uv645 := Int32.toInt_lt v645
                    first | refine px_callv (pr := []) (px_runV (As := [.int 6, .int v645]) (rest := []) S (c_mp_bad l D cs h r g tf ta pf na ma wa ca ef ea xf xa cf 6 v645  (show 1 ≤ (6 : Int) from oz_2c1e0e66aa) (show 0 ≤ v645.toInt from e646) (show v645.toInt < (tf 6).toInt from e647) htk hwr _) hT (pr := []) (pcs := [wdP cs h r g tf ta pf na ma wa cf ca ef ea xf xa]) hw px_X.tt (px_recv hT hw 0 0 rfl rfl rfl) m12_173 m12_170 m12_172 ms_11_12 m1_21 q_Mpg_bad ⟨Nat.le_of_ble_eq_true rfl, Nat.le_of_ble_eq_true rfl⟩ hl.1 rfl (Nat.le_of_ble_eq_true rfl) d_Mpg_checkPlace_103 ⟨Nat.le_of_ble_eq_true rfl, Nat.le_of_ble_eq_true rfl⟩) hw hA (fun p651 H locs hp651 hw => ?_) | (refine px_callv (pr := []) (px_runV (As := [.int 6, .int v645]) (rest := []) S (c_mp_bad l D cs h r g tf ta pf na ma wa ca ef ea xf xa cf 6 v645  (show 1 ≤ (6 : Int) from by first | exact oz_2c1e0e66aa | omega) (show 0 ≤ v645.toInt from by first | exact e646 | omega) (show v645.toInt < (tf 6).toInt from by first | exact e647 | omega) htk hwr _) hT (pr := []) (pcs := [wdP cs h r g tf ta pf na ma wa cf ca ef ea xf xa]) hw px_X.tt (px_recv hT hw 0 0 rfl rfl rfl) m12_173 m12_170 m12_172 ms_11_12 m1_21 q_Mpg_bad ⟨Nat.le_of_ble_eq_true rfl, Nat.le_of_ble_eq_true rfl⟩ hl.1 rfl (Nat.le_of_ble_eq_true rfl) d_Mpg_checkPlace_103 ⟨Nat.le_of_ble_eq_true rfl, Nat.le_of_ble_eq_true rfl⟩) hw hA (fun p651 H locs hp651 hw => ?_))
                    obtain ⟨cf650, rfl, e653, e654, e655, e656, e657, e658, e659, e660, e661, e662, e663, e664, e665, e666, e667, e668, e669, e670, e671, e672⟩ := hp651
                    have e653 : KpE cf cf650 := e653
                    have hke := (hke).tr e653
                    have hkz_e653 := e653.2
                    have e654 : WrV cf650 (tf 6).toInt := e654
                    have hwr := e654
                    have hw0_e654 := hwr.1
                    have e655 : 1 ≤ (cf650 30).toInt := e655
                    have e656 : (cf650 33).toInt = (cf 33).toInt := e656
                    have e657 : (cf650 38).toInt = (cf 38).toInt := e657
                    have e658 : (cf650 48).toInt = (cf 48).toInt := e658
                    have e659 : (cf650 46).toInt = (cf 46).toInt := e659
                    have e660 : (cf650 47).toInt = (cf 47).toInt := e660
                    have e661 : (cf650 57).toInt = (cf 57).toInt := e661
                    have e662 : (cf650 37).toInt = (cf 37).toInt := e662
                    have e663 : (cf650 42).toInt = (cf 42).toInt := e663
                    have e664 : (cf650 43).toInt = (cf 43).toInt := e664
                    have e665 : (cf650 44).toInt = (cf 44).toInt := e665
                    have e666 : (cf650 45).toInt = (cf 45).toInt := e666
                    have e667 : (cf650 54).toInt = (cf 54).toInt := e667
                    have e668 : (cf650 55).toInt = (cf 55).toInt := e668
                    have e669 : (cf650 58).toInt = (cf 58).toInt := e669
                    have e670 : (cf650 59).toInt = (cf 59).toInt := e670
                    have e671 : (cf650 41).toInt = (cf 41).toInt := e671
                    have e672 : R_mp_bad (6 : Int32) v645 cf cf650 := e672
                    first | exact px_vret S hr hlk hAe hw (Nat.le_of_ble_eq_true rfl) (Nat.le_of_ble_eq_true rfl) (⟨cf650, rfl, (show KpE cf cf650 from hke), (show WrV cf650 (tf 6).toInt from hwr), (show (cf650 33).toInt = (cf 33).toInt from e656), (show (cf650 38).toInt = (cf 38).toInt from e657), (show (cf650 48).toInt = (cf 48).toInt from e658), (show (cf650 46).toInt = (cf 46).toInt from e659), (show (cf650 47).toInt = (cf 47).toInt from e660), (show (cf650 57).toInt = (cf 57).toInt from e661), (show ZPl cf650 na ma p0 p1.toInt from (zr_no (by omega))), (show R_mp_checkPlace ta na ca p0 p1 cf cf650 from (Or.inl (Or.inr ⟨nc1, Or.inl ⟨nc352, z354, ez354, Or.inr ⟨nc355, z406, ez406, Or.inr ⟨nc407, Or.inr ⟨nc516, z625, ez625, Or.inr ⟨nc626, Or.inr ⟨nc629, z632, ez632, v634, e639, z640, ez640, Or.inl ⟨nc641, v645, e648, cf650, e672, rfl⟩⟩⟩⟩⟩⟩⟩⟩)))⟩) d_Mpg_checkPlace_106 | (exact px_vret S hr hlk hAe hw (Nat.le_of_ble_eq_true rfl) (Nat.le_of_ble_eq_true rfl) (⟨cf650, rfl, (show KpE cf cf650 from hke), (show WrV cf650 (tf 6).toInt from hwr), (show (cf650 33).toInt = (cf 33).toInt from by first | exact e656 | omega), (show (cf650 38).toInt = (cf 38).toInt from by first | exact e657 | omega), (show (cf650 48).toInt = (cf 48).toInt from by first | exact e658 | omega), (show (cf650 46).toInt = (cf 46).toInt from by first | exact e659 | omega), (show (cf650 47).toInt = (cf 47).toInt from by first | exact e660 | omega), (show (cf650 57).toInt = (cf 57).toInt from by first | exact e661 | omega), (show ZPl cf650 na ma p0 p1.toInt from (zr_no (by omega))), (show R_mp_checkPlace ta na ca p0 p1 cf cf650 from (Or.inl (Or.inr ⟨nc1, Or.inl ⟨nc352, z354, ez354, Or.inr ⟨nc355, z406, ez406, Or.inr ⟨nc407, Or.inr ⟨nc516, z625, ez625, Or.inr ⟨nc626, Or.inr ⟨nc629, z632, ez632, v634, e639, z640, ez640, Or.inl ⟨nc641, v645, e648, cf650, e672, rfl⟩⟩⟩⟩⟩⟩⟩⟩)))⟩) d_Mpg_checkPlace_106)
                · have nc641 : z640.toInt = (1 : Int) := (i_eq (x := z640) (y := 1)).mp c641
                  refine lv_iconst (v := 1) S.x S.b d_Mpg_checkPlace_85 (by decide) ?_
                  refine lv_goto (tgt := 90) S.x S.b d_Mpg_checkPlace_86 (by decide) ?_
                  refine lv_istore_n (lv' := [(3, .int 1), (0, .ref h), (1, .int p0), (2, .int p1)]) S.x S.b d_Mpg_checkPlace_90 rfl hl (by decide) rfl (fun ls hl => ?_)
                  refine lv_iload_n S.x S.b d_Mpg_checkPlace_91 rfl (lv_at hl 0 rfl) ?_
                  refine lv_if_ne (tgt := 106) S.x S.b d_Mpg_checkPlace_92 (by decide) (fun c673 => ?_) (fun c673 => ?_)
                  ·
                    exact px_vret S hr hlk hAe hw (Nat.le_of_ble_eq_true rfl) (Nat.le_of_ble_eq_true rfl) (⟨cf, rfl, (show KpE cf cf from hke), (show WrV cf (tf 6).toInt from hwr), (show (cf 33).toInt = (cf 33).toInt from rfl), (show (cf 38).toInt = (cf 38).toInt from rfl), (show (cf 48).toInt = (cf 48).toInt from rfl), (show (cf 46).toInt = (cf 46).toInt from rfl), (show (cf 47).toInt = (cf 47).toInt from rfl), (show (cf 57).toInt = (cf 57).toInt from rfl), (show ZPl cf na ma p0 p1.toInt from (fun _ => ⟨⟨by omega, by omega⟩, (by first | exact Or.inl (by omega) | exact Or.inr ⟨by omega, Or.inl (by omega)⟩ | exact Or.inr ⟨by omega, Or.inr ⟨by omega, nm_pl (hnj (by omega)) (by omega) hfd ez632 (by omega) hks (by omega) ez640 (by omega)⟩⟩)⟩)), (show R_mp_checkPlace ta na ca p0 p1 cf cf from (Or.inl (Or.inr ⟨nc1, Or.inl ⟨nc352, z354, ez354, Or.inr ⟨nc355, z406, ez406, Or.inr ⟨nc407, Or.inr ⟨nc516, z625, ez625, Or.inr ⟨nc626, Or.inr ⟨nc629, z632, ez632, v634, e639, z640, ez640, Or.inr ⟨nc641, rfl⟩⟩⟩⟩⟩⟩⟩⟩)))⟩) d_Mpg_checkPlace_106
                  · exact absurd c673 (by decide)
    · have nc352 : p1.toInt = (3 : Int) := (i_eq (x := p1) (y := 3)).mp c352
      refine lv_aload_n S.x S.b d_Mpg_checkPlace_10 rfl (lv_at hl 0 rfl) ?_
      refine lv_iconst (v := 3) S.x S.b d_Mpg_checkPlace_11 (by decide) ?_
      refine lv_aload_n S.x S.b d_Mpg_checkPlace_12 rfl (lv_at hl 0 rfl) ?_
      refine lv_iload_n S.x S.b d_Mpg_checkPlace_13 rfl (lv_at hl 1 rfl) ?_
      first | refine px_calli (pr := []) (px_runV (As := [.int p0]) (rest := [.int 3, .ref h]) S (c_mp_first l D cs h r g tf ta pf na ma wa cf ca ef ea xf xa p0  (show 0 ≤ p0.toInt from hrg.2.2) (show p0.toInt < (pf 13).toInt from (oz_7319c2f99d g1 hrg.2.1)) (show (pf 13).toInt ≤ 2100 from g2) htk (FsI.le (N' := (pf 13).toInt) hfs (by omega)) _) hT (pr := []) (pcs := [wdP cs h r g tf ta pf na ma wa cf ca ef ea xf xa]) hw px_X.tt (px_recv hT hw 0 0 rfl rfl rfl) m13_9 m13_6 m13_8 ms_12_15 m1_21 q_Mpg_first ⟨Nat.le_of_ble_eq_true rfl, Nat.le_of_ble_eq_true rfl⟩ hl.1 rfl (Nat.le_of_ble_eq_true rfl) d_Mpg_checkPlace_14 ⟨Nat.le_of_ble_eq_true rfl, Nat.le_of_ble_eq_true rfl⟩) hw hA (fun v675 p674 H locs hp674 hw => ?_) | (refine px_calli (pr := []) (px_runV (As := [.int p0]) (rest := [.int 3, .ref h]) S (c_mp_first l D cs h r g tf ta pf na ma wa cf ca ef ea xf xa p0  (show 0 ≤ p0.toInt from by first | exact hrg.2.2 | omega) (show p0.toInt < (pf 13).toInt from by first | exact oz_7319c2f99d g1 hrg.2.1 | omega) (show (pf 13).toInt ≤ 2100 from by first | exact g2 | omega) htk (FsI.le (N' := (pf 13).toInt) hfs (by omega)) _) hT (pr := []) (pcs := [wdP cs h r g tf ta pf na ma wa cf ca ef ea xf xa]) hw px_X.tt (px_recv hT hw 0 0 rfl rfl rfl) m13_9 m13_6 m13_8 ms_12_15 m1_21 q_Mpg_first ⟨Nat.le_of_ble_eq_true rfl, Nat.le_of_ble_eq_true rfl⟩ hl.1 rfl (Nat.le_of_ble_eq_true rfl) d_Mpg_checkPlace_14 ⟨Nat.le_of_ble_eq_true rfl, Nat.le_of_ble_eq_true rfl⟩) hw hA (fun v675 p674 H locs hp674 hw => ?_))
      obtain ⟨rfl, e676, e677, e678⟩ := hp674
      have e676 : 0 ≤ v675.toInt := e676
      have e677 : v675.toInt < (tf 6).toInt := e677
      have e678 : R_mp_first na p0 v675 := e678
      have lv675 := Int32.le_toInt v675
      have uv675 := Int32.toInt_lt v675
      first | refine px_callv (pr := []) (px_runV (As := [.int 3, .int v675]) (rest := []) S (c_mp_bad l D cs h r g tf ta pf na ma wa ca ef ea xf xa cf 3 v675  (show 1 ≤ (3 : Int) from oz_00a6fa0b0d) (show 0 ≤ v675.toInt from e676) (show v675.toInt < (tf 6).toInt from e677) htk hwr _) hT (pr := []) (pcs := [wdP cs h r g tf ta pf na ma wa cf ca ef ea xf xa]) hw px_X.tt (px_recv hT hw 0 0 rfl rfl rfl) m12_173 m12_170 m12_172 ms_11_12 m1_21 q_Mpg_bad ⟨Nat.le_of_ble_eq_true rfl, Nat.le_of_ble_eq_true rfl⟩ hl.1 rfl (Nat.le_of_ble_eq_true rfl) d_Mpg_checkPlace_17 ⟨Nat.le_of_ble_eq_true rfl, Nat.le_of_ble_eq_true rfl⟩) hw hA (fun p681 H locs hp681 hw => ?_) | (refine px_callv (pr := []) (px_runV (As := [.int 3, .int v675]) (rest := []) S (c_mp_bad l D cs h r g tf ta pf na ma wa ca ef ea xf xa cf 3 v675  (show 1 ≤ (3 : Int) from by first | exact oz_00a6fa0b0d | omega) (show 0 ≤ v675.toInt from by first | exact e676 | omega) (show v675.toInt < (tf 6).toInt from by first | exact e677 | omega) htk hwr _) hT (pr := []) (pcs := [wdP cs h r g tf ta pf na ma wa cf ca ef ea xf xa]) hw px_X.tt (px_recv hT hw 0 0 rfl rfl rfl) m12_173 m12_170 m12_172 ms_11_12 m1_21 q_Mpg_bad ⟨Nat.le_of_ble_eq_true rfl, Nat.le_of_ble_eq_true rfl⟩ hl.1 rfl (Nat.le_of_ble_eq_true rfl) d_Mpg_checkPlace_17 ⟨Nat.le_of_ble_eq_true rfl, Nat.le_of_ble_eq_true rfl⟩) hw hA (fun p681 H locs hp681 hw => ?_))
      obtain ⟨cf680, rfl, e683, e684, e685, e686, e687, e688, e689, e690, e691, e692, e693, e694, e695, e696, e697, e698, e699, e700, e701, e702⟩ := hp681
      have e683 : KpE cf cf680 := e683
      have hke := (hke).tr e683
      have hkz_e683 := e683.2
      have e684 : WrV cf680 (tf 6).toInt := e684
      have hwr := e684
      have hw0_e684 := hwr.1
      have e685 : 1 ≤ (cf680 30).toInt := e685
      have e686 : (cf680 33).toInt = (cf 33).toInt := e686
      have e687 : (cf680 38).toInt = (cf 38).toInt := e687
      have e688 : (cf680 48).toInt = (cf 48).toInt := e688
      have e689 : (cf680 46).toInt = (cf 46).toInt := e689
      have e690 : (cf680 47).toInt = (cf 47).toInt := e690
      have e691 : (cf680 57).toInt = (cf 57).toInt := e691
      have e692 : (cf680 37).toInt = (cf 37).toInt := e692
      have e693 : (cf680 42).toInt = (cf 42).toInt := e693
      have e694 : (cf680 43).toInt = (cf 43).toInt := e694
      have e695 : (cf680 44).toInt = (cf 44).toInt := e695
      have e696 : (cf680 45).toInt = (cf 45).toInt := e696
      have e697 : (cf680 54).toInt = (cf 54).toInt := e697
      have e698 : (cf680 55).toInt = (cf 55).toInt := e698
      have e699 : (cf680 58).toInt = (cf 58).toInt := e699
      have e700 : (cf680 59).toInt = (cf 59).toInt := e700
      have e701 : (cf680 41).toInt = (cf 41).toInt := e701
      have e702 : R_mp_bad (3 : Int32) v675 cf cf680 := e702
      refine lv_aload_n S.x S.b d_Mpg_checkPlace_20 rfl (lv_at hl 0 rfl) ?_
      refine gP_14 S hT hw 0 rfl m9_238 d_Mpg_checkPlace_21 ?_
      refine lv_iload_n S.x S.b d_Mpg_checkPlace_24 rfl (lv_at hl 1 rfl) ?_
      refine px_bald S hT hw 0 10 (n := 2100) (f := (na 14)) rfl gp_14 (x := p0) (vp_in_iff.mpr (by first | exact oz_a7e05de1cd hrg.2.2 hrg.2.1 g1 g2 | (constructor <;> omega))) d_Mpg_checkPlace_25 ?_
      refine lv_topi (fun z703 ez703 => ?_)
      have lz703 := Int32.le_toInt z703
      have uz703 := Int32.toInt_lt z703
      have rz703 := EcV.kd hec_p0 ez703
      refine lv_iconst (v := 4) S.x S.b d_Mpg_checkPlace_26 (by decide) ?_
      refine lv_icmp_eq (tgt := 44) S.x S.b d_Mpg_checkPlace_27 (by decide) (fun c704 => ?_) (fun c704 => ?_)
      · have nc704 : z703.toInt = (4 : Int) := (i_eq (x := z703) (y := 4)).mp c704
        refine lv_iconst (v := 1) S.x S.b d_Mpg_checkPlace_44 (by decide) ?_
        refine lv_goto (tgt := 49) S.x S.b d_Mpg_checkPlace_45 (by decide) ?_
        refine lv_istore_n (lv' := [(3, .int 1), (0, .ref h), (1, .int p0), (2, .int p1)]) S.x S.b d_Mpg_checkPlace_49 rfl hl (by decide) rfl (fun ls hl => ?_)
        refine lv_aload_n S.x S.b d_Mpg_checkPlace_50 rfl (lv_at hl 1 rfl) ?_
        refine gP_14 S hT hw 0 rfl m9_238 d_Mpg_checkPlace_51 ?_
        refine lv_iload_n S.x S.b d_Mpg_checkPlace_54 rfl (lv_at hl 2 rfl) ?_
        refine px_bald S hT hw 0 10 (n := 2100) (f := (na 14)) rfl gp_14 (x := p0) (vp_in_iff.mpr (by first | exact oz_a7e05de1cd hrg.2.2 hrg.2.1 g1 g2 | (constructor <;> omega))) d_Mpg_checkPlace_55 ?_
        refine lv_topi (fun z706 ez706 => ?_)
        have lz706 := Int32.le_toInt z706
        have uz706 := Int32.toInt_lt z706
        have rz706 := EcV.kd hec_p0 ez706
        refine lv_iconst (v := 2) S.x S.b d_Mpg_checkPlace_56 (by decide) ?_
        refine lv_icmp_ne (tgt := 91) S.x S.b d_Mpg_checkPlace_57 (by decide) (fun c707 => ?_) (fun c707 => ?_)
        · have nc707 : ¬ z706.toInt = (2 : Int) := mt (i_eq (x := z706) (y := 2)).mpr c707
          refine lv_iload_n S.x S.b d_Mpg_checkPlace_91 rfl (lv_at hl 0 rfl) ?_
          refine lv_if_ne (tgt := 106) S.x S.b d_Mpg_checkPlace_92 (by decide) (fun c709 => ?_) (fun c709 => ?_)
          ·
            first | exact px_vret S hr hlk hAe hw (Nat.le_of_ble_eq_true rfl) (Nat.le_of_ble_eq_true rfl) (⟨cf680, rfl, (show KpE cf cf680 from hke), (show WrV cf680 (tf 6).toInt from hwr), (show (cf680 33).toInt = (cf 33).toInt from e686), (show (cf680 38).toInt = (cf 38).toInt from e687), (show (cf680 48).toInt = (cf 48).toInt from e688), (show (cf680 46).toInt = (cf 46).toInt from e689), (show (cf680 47).toInt = (cf 47).toInt from e690), (show (cf680 57).toInt = (cf 57).toInt from e691), (show ZPl cf680 na ma p0 p1.toInt from (zr_no (by omega))), (show R_mp_checkPlace ta na ca p0 p1 cf cf680 from (Or.inl (Or.inr ⟨nc1, Or.inr ⟨nc352, v675, e678, cf680, e702, z703, ez703, Or.inl ⟨nc704, z706, ez706, Or.inl ⟨nc707, rfl⟩⟩⟩⟩)))⟩) d_Mpg_checkPlace_106 | (exact px_vret S hr hlk hAe hw (Nat.le_of_ble_eq_true rfl) (Nat.le_of_ble_eq_true rfl) (⟨cf680, rfl, (show KpE cf cf680 from hke), (show WrV cf680 (tf 6).toInt from hwr), (show (cf680 33).toInt = (cf 33).toInt from by first | exact e686 | omega), (show (cf680 38).toInt = (cf 38).toInt from by first | exact e687 | omega), (show (cf680 48).toInt = (cf 48).toInt from by first | exact e688 | omega), (show (cf680 46).toInt = (cf 46).toInt from by first | exact e689 | omega), (show (cf680 47).toInt = (cf 47).toInt from by first | exact e690 | omega), (show (cf680 57).toInt = (cf 57).toInt from by first | exact e691 | omega), (show ZPl cf680 na ma p0 p1.toInt from (zr_no (by omega))), (show R_mp_checkPlace ta na ca p0 p1 cf cf680 from (Or.inl (Or.inr ⟨nc1, Or.inr ⟨nc352, v675, e678, cf680, e702, z703, ez703, Or.inl ⟨nc704, z706, ez706, Or.inl ⟨nc707, rfl⟩⟩⟩⟩)))⟩) d_Mpg_checkPlace_106)
          · exact absurd c709 (by decide)
        · have nc707 : z706.toInt = (2 : Int) := (i_eq (x := z706) (y := 2)).mp c707
          refine lv_iload_n S.x S.b d_Mpg_checkPlace_60 rfl (lv_at hl 3 rfl) ?_
          refine lv_iconst (v := 1) S.x S.b d_Mpg_checkPlace_61 (by decide) ?_
          refine lv_icmp_ne (tgt := 91) S.x S.b d_Mpg_checkPlace_62 (by decide) (fun c710 => ?_) (fun c710 => ?_)
          · have nc710 : ¬ p1.toInt = (1 : Int) := mt (i_eq (x := p1) (y := 1)).mpr c710
            refine lv_iload_n S.x S.b d_Mpg_checkPlace_91 rfl (lv_at hl 0 rfl) ?_
            refine lv_if_ne (tgt := 106) S.x S.b d_Mpg_checkPlace_92 (by decide) (fun c712 => ?_) (fun c712 => ?_)
            ·
              first | exact px_vret S hr hlk hAe hw (Nat.le_of_ble_eq_true rfl) (Nat.le_of_ble_eq_true rfl) (⟨cf680, rfl, (show KpE cf cf680 from hke), (show WrV cf680 (tf 6).toInt from hwr), (show (cf680 33).toInt = (cf 33).toInt from e686), (show (cf680 38).toInt = (cf 38).toInt from e687), (show (cf680 48).toInt = (cf 48).toInt from e688), (show (cf680 46).toInt = (cf 46).toInt from e689), (show (cf680 47).toInt = (cf 47).toInt from e690), (show (cf680 57).toInt = (cf 57).toInt from e691), (show ZPl cf680 na ma p0 p1.toInt from (zr_no (by omega))), (show R_mp_checkPlace ta na ca p0 p1 cf cf680 from (Or.inl (Or.inr ⟨nc1, Or.inr ⟨nc352, v675, e678, cf680, e702, z703, ez703, Or.inl ⟨nc704, z706, ez706, Or.inr ⟨nc707, Or.inl ⟨nc710, rfl⟩⟩⟩⟩⟩)))⟩) d_Mpg_checkPlace_106 | (exact px_vret S hr hlk hAe hw (Nat.le_of_ble_eq_true rfl) (Nat.le_of_ble_eq_true rfl) (⟨cf680, rfl, (show KpE cf cf680 from hke), (show WrV cf680 (tf 6).toInt from hwr), (show (cf680 33).toInt = (cf 33).toInt from by first | exact e686 | omega), (show (cf680 38).toInt = (cf 38).toInt from by first | exact e687 | omega), (show (cf680 48).toInt = (cf 48).toInt from by first | exact e688 | omega), (show (cf680 46).toInt = (cf 46).toInt from by first | exact e689 | omega), (show (cf680 47).toInt = (cf 47).toInt from by first | exact e690 | omega), (show (cf680 57).toInt = (cf 57).toInt from by first | exact e691 | omega), (show ZPl cf680 na ma p0 p1.toInt from (zr_no (by omega))), (show R_mp_checkPlace ta na ca p0 p1 cf cf680 from (Or.inl (Or.inr ⟨nc1, Or.inr ⟨nc352, v675, e678, cf680, e702, z703, ez703, Or.inl ⟨nc704, z706, ez706, Or.inr ⟨nc707, Or.inl ⟨nc710, rfl⟩⟩⟩⟩⟩)))⟩) d_Mpg_checkPlace_106)
            · exact absurd c712 (by decide)
          · have nc710 : p1.toInt = (1 : Int) := (i_eq (x := p1) (y := 1)).mp c710
            refine lv_aload_n S.x S.b d_Mpg_checkPlace_65 rfl (lv_at hl 1 rfl) ?_
            refine gP_35 S hT hw 0 rfl m10_24 d_Mpg_checkPlace_66 ?_
            refine lv_aload_n S.x S.b d_Mpg_checkPlace_69 rfl (lv_at hl 1 rfl) ?_
            refine lv_aload_n S.x S.b d_Mpg_checkPlace_70 rfl (lv_at hl 1 rfl) ?_
            refine gP_15 S hT hw 0 rfl m9_239 d_Mpg_checkPlace_71 ?_
            refine lv_iload_n S.x S.b d_Mpg_checkPlace_74 rfl (lv_at hl 2 rfl) ?_
            refine px_iald S hT hw 0 11 (n := 2100) (f := (na 15)) rfl gp_15 (x := p0) (vp_in_iff.mpr (by first | exact oz_a7e05de1cd hrg.2.2 hrg.2.1 g1 g2 | (constructor <;> omega))) d_Mpg_checkPlace_75 ?_
            refine lv_topi (fun z713 ez713 => ?_)
            have lz713 := Int32.le_toInt z713
            have uz713 := Int32.toInt_lt z713
            have rz713 := EcV.tok hec_p0 ez713
            refine lv_iconst (v := 0) S.x S.b d_Mpg_checkPlace_76 (by decide) ?_
            first | refine px_calli (pr := []) (px_runV (As := [.int z713, .int 0]) (rest := [.ref (r 35)]) S (c_mp_find l D cs h r g tf ta pf na ma wa cf680 ca ef ea xf xa z713 0  (show 0 ≤ z713.toInt from rz713.1) (show z713.toInt < (tf 6).toInt from (oz_7fe81129bf rz713.2)) (show (tf 6).toInt ≤ 2049 from g3) (show 0 ≤ (0 : Int) from oz_5a341f00aa) (show 0 ≤ (cf680 33).toInt from (oz_e2fef14871 e686 g4 g5)) htk (KnT.eq hkt (by omega)) _) hT (pr := []) (pcs := [wdP cs h r g tf ta pf na ma wa cf680 ca ef ea xf xa]) hw px_X.tt (px_recv hT hw 0 0 rfl rfl rfl) m12_181 m12_178 m12_180 ms_11_14 m1_21 q_Mpg_find ⟨Nat.le_of_ble_eq_true rfl, Nat.le_of_ble_eq_true rfl⟩ hl.1 rfl (Nat.le_of_ble_eq_true rfl) d_Mpg_checkPlace_77 ⟨Nat.le_of_ble_eq_true rfl, Nat.le_of_ble_eq_true rfl⟩) hw hA (fun v715 p714 H locs hp714 hw => ?_) | (refine px_calli (pr := []) (px_runV (As := [.int z713, .int 0]) (rest := [.ref (r 35)]) S (c_mp_find l D cs h r g tf ta pf na ma wa cf680 ca ef ea xf xa z713 0  (show 0 ≤ z713.toInt from by first | exact rz713.1 | omega) (show z713.toInt < (tf 6).toInt from by first | exact oz_7fe81129bf rz713.2 | omega) (show (tf 6).toInt ≤ 2049 from by first | exact g3 | omega) (show 0 ≤ (0 : Int) from by first | exact oz_5a341f00aa | omega) (show 0 ≤ (cf680 33).toInt from by first | exact oz_e2fef14871 e686 g4 g5 | omega) htk (KnT.eq hkt (by omega)) _) hT (pr := []) (pcs := [wdP cs h r g tf ta pf na ma wa cf680 ca ef ea xf xa]) hw px_X.tt (px_recv hT hw 0 0 rfl rfl rfl) m12_181 m12_178 m12_180 ms_11_14 m1_21 q_Mpg_find ⟨Nat.le_of_ble_eq_true rfl, Nat.le_of_ble_eq_true rfl⟩ hl.1 rfl (Nat.le_of_ble_eq_true rfl) d_Mpg_checkPlace_77 ⟨Nat.le_of_ble_eq_true rfl, Nat.le_of_ble_eq_true rfl⟩) hw hA (fun v715 p714 H locs hp714 hw => ?_))
            obtain ⟨rfl, e716, e717, e718, e719, e720⟩ := hp714
            have e716 : -1 ≤ v715.toInt := e716
            have e717 : v715.toInt < (cf680 33).toInt := e717
            have e718 : 0 ≤ v715.toInt → (0 : Int) ≤ v715.toInt := e718
            have e719 : FndV ta ca (cf680 33).toInt z713 (0 : Int) v715.toInt := e719
            have hfd := e719
            have e720 : R_mp_find ta cf680 ca z713 (0 : Int32) v715 := e720
            have lv715 := Int32.le_toInt v715
            have uv715 := Int32.toInt_lt v715
            have hps := nm_pos (hnj (by omega)) (by omega) hfd ez713 (by omega)
            refine px_iald S hT hw 0 24 (n := 1100) (f := (ca 35)) rfl gp_35 (x := v715) (vp_in_iff.mpr (by constructor <;> omega)) d_Mpg_checkPlace_80 ?_
            refine lv_topi (fun z721 ez721 => ?_)
            have lz721 := Int32.le_toInt z721
            have uz721 := Int32.toInt_lt z721
            refine lv_iconst (v := 1) S.x S.b d_Mpg_checkPlace_81 (by decide) ?_
            refine lv_icmp_ne (tgt := 89) S.x S.b d_Mpg_checkPlace_82 (by decide) (fun c722 => ?_) (fun c722 => ?_)
            · have nc722 : ¬ z721.toInt = (1 : Int) := mt (i_eq (x := z721) (y := 1)).mpr c722
              refine lv_iconst (v := 0) S.x S.b d_Mpg_checkPlace_89 (by decide) ?_
              refine lv_istore_n (lv' := [(3, .int 0), (0, .ref h), (1, .int p0), (2, .int p1)]) S.x S.b d_Mpg_checkPlace_90 rfl hl (by decide) rfl (fun ls hl => ?_)
              refine lv_iload_n S.x S.b d_Mpg_checkPlace_91 rfl (lv_at hl 0 rfl) ?_
              refine lv_if_ne (tgt := 106) S.x S.b d_Mpg_checkPlace_92 (by decide) (fun c724 => ?_) (fun c724 => ?_)
              · exact absurd c724 (by decide)
              ·
                refine lv_aload_n S.x S.b d_Mpg_checkPlace_95 rfl (lv_at hl 1 rfl) ?_
                refine lv_bipush (v := 6) S.x S.b d_Mpg_checkPlace_96 (by decide) ?_
                refine lv_aload_n S.x S.b d_Mpg_checkPlace_98 rfl (lv_at hl 1 rfl) ?_
                refine lv_iload_n S.x S.b d_Mpg_checkPlace_99 rfl (lv_at hl 2 rfl) ?_
                first | refine px_calli (pr := []) (px_runV (As := [.int p0]) (rest := [.int 6, .ref h]) S (c_mp_first l D cs h r g tf ta pf na ma wa cf680 ca ef ea xf xa p0  (show 0 ≤ p0.toInt from hrg.2.2) (show p0.toInt < (pf 13).toInt from (oz_7319c2f99d g1 hrg.2.1)) (show (pf 13).toInt ≤ 2100 from g2) htk (FsI.le (N' := (pf 13).toInt) hfs (by omega)) _) hT (pr := []) (pcs := [wdP cs h r g tf ta pf na ma wa cf680 ca ef ea xf xa]) hw px_X.tt (px_recv hT hw 0 0 rfl rfl rfl) m13_9 m13_6 m13_8 ms_12_15 m1_21 q_Mpg_first ⟨Nat.le_of_ble_eq_true rfl, Nat.le_of_ble_eq_true rfl⟩ hl.1 rfl (Nat.le_of_ble_eq_true rfl) d_Mpg_checkPlace_100 ⟨Nat.le_of_ble_eq_true rfl, Nat.le_of_ble_eq_true rfl⟩) hw hA (fun v726 p725 H locs hp725 hw => ?_) | (refine px_calli (pr := []) (px_runV (As := [.int p0]) (rest := [.int 6, .ref h]) S (c_mp_first l D cs h r g tf ta pf na ma wa cf680 ca ef ea xf xa p0  (show 0 ≤ p0.toInt from by first | exact hrg.2.2 | omega) (show p0.toInt < (pf 13).toInt from by first | exact oz_7319c2f99d g1 hrg.2.1 | omega) (show (pf 13).toInt ≤ 2100 from by first | exact g2 | omega) htk (FsI.le (N' := (pf 13).toInt) hfs (by omega)) _) hT (pr := []) (pcs := [wdP cs h r g tf ta pf na ma wa cf680 ca ef ea xf xa]) hw px_X.tt (px_recv hT hw 0 0 rfl rfl rfl) m13_9 m13_6 m13_8 ms_12_15 m1_21 q_Mpg_first ⟨Nat.le_of_ble_eq_true rfl, Nat.le_of_ble_eq_true rfl⟩ hl.1 rfl (Nat.le_of_ble_eq_true rfl) d_Mpg_checkPlace_100 ⟨Nat.le_of_ble_eq_true rfl, Nat.le_of_ble_eq_true rfl⟩) hw hA (fun v726 p725 H locs hp725 hw => ?_))
                obtain ⟨rfl, e727, e728, e729⟩ := hp725
                have e727 : 0 ≤ v726.toInt := e727
                have e728 : v726.toInt < (tf 6).toInt := e728
                have e729 : R_mp_first na p0 v726 := e729
                have lv726 := Int32.le_toInt v726
                have uv726 := Int32.toInt_lt v726
                first | refine px_callv (pr := []) (px_runV (As := [.int 6, .int v726]) (rest := []) S (c_mp_bad l D cs h r g tf ta pf na ma wa ca ef ea xf xa cf680 6 v726  (show 1 ≤ (6 : Int) from oz_2c1e0e66aa) (show 0 ≤ v726.toInt from e727) (show v726.toInt < (tf 6).toInt from e728) htk hwr _) hT (pr := []) (pcs := [wdP cs h r g tf ta pf na ma wa cf680 ca ef ea xf xa]) hw px_X.tt (px_recv hT hw 0 0 rfl rfl rfl) m12_173 m12_170 m12_172 ms_11_12 m1_21 q_Mpg_bad ⟨Nat.le_of_ble_eq_true rfl, Nat.le_of_ble_eq_true rfl⟩ hl.1 rfl (Nat.le_of_ble_eq_true rfl) d_Mpg_checkPlace_103 ⟨Nat.le_of_ble_eq_true rfl, Nat.le_of_ble_eq_true rfl⟩) hw hA (fun p732 H locs hp732 hw => ?_) | (refine px_callv (pr := []) (px_runV (As := [.int 6, .int v726]) (rest := []) S (c_mp_bad l D cs h r g tf ta pf na ma wa ca ef ea xf xa cf680 6 v726  (show 1 ≤ (6 : Int) from by first | exact oz_2c1e0e66aa | omega) (show 0 ≤ v726.toInt from by first | exact e727 | omega) (show v726.toInt < (tf 6).toInt from by first | exact e728 | omega) htk hwr _) hT (pr := []) (pcs := [wdP cs h r g tf ta pf na ma wa cf680 ca ef ea xf xa]) hw px_X.tt (px_recv hT hw 0 0 rfl rfl rfl) m12_173 m12_170 m12_172 ms_11_12 m1_21 q_Mpg_bad ⟨Nat.le_of_ble_eq_true rfl, Nat.le_of_ble_eq_true rfl⟩ hl.1 rfl (Nat.le_of_ble_eq_true rfl) d_Mpg_checkPlace_103 ⟨Nat.le_of_ble_eq_true rfl, Nat.le_of_ble_eq_true rfl⟩) hw hA (fun p732 H locs hp732 hw => ?_))
                obtain ⟨cf731, rfl, e734, e735, e736, e737, e738, e739, e740, e741, e742, e743, e744, e745, e746, e747, e748, e749, e750, e751, e752, e753⟩ := hp732
                have e734 : KpE cf680 cf731 := e734
                have hke := (hke).tr e734
                have hkz_e734 := e734.2
                have e735 : WrV cf731 (tf 6).toInt := e735
                have hwr := e735
                have hw0_e735 := hwr.1
                have e736 : 1 ≤ (cf731 30).toInt := e736
                have e737 : (cf731 33).toInt = (cf680 33).toInt := e737
                have e738 : (cf731 38).toInt = (cf680 38).toInt := e738
                have e739 : (cf731 48).toInt = (cf680 48).toInt := e739
                have e740 : (cf731 46).toInt = (cf680 46).toInt := e740
                have e741 : (cf731 47).toInt = (cf680 47).toInt := e741
                have e742 : (cf731 57).toInt = (cf680 57).toInt := e742
                have e743 : (cf731 37).toInt = (cf680 37).toInt := e743
                have e744 : (cf731 42).toInt = (cf680 42).toInt := e744
                have e745 : (cf731 43).toInt = (cf680 43).toInt := e745
                have e746 : (cf731 44).toInt = (cf680 44).toInt := e746
                have e747 : (cf731 45).toInt = (cf680 45).toInt := e747
                have e748 : (cf731 54).toInt = (cf680 54).toInt := e748
                have e749 : (cf731 55).toInt = (cf680 55).toInt := e749
                have e750 : (cf731 58).toInt = (cf680 58).toInt := e750
                have e751 : (cf731 59).toInt = (cf680 59).toInt := e751
                have e752 : (cf731 41).toInt = (cf680 41).toInt := e752
                have e753 : R_mp_bad (6 : Int32) v726 cf680 cf731 := e753
                first | exact px_vret S hr hlk hAe hw (Nat.le_of_ble_eq_true rfl) (Nat.le_of_ble_eq_true rfl) (⟨cf731, rfl, (show KpE cf cf731 from hke), (show WrV cf731 (tf 6).toInt from hwr), (show (cf731 33).toInt = (cf 33).toInt from (oz_1687f4cc65 e686 e737)), (show (cf731 38).toInt = (cf 38).toInt from (oz_1687f4cc65 e687 e738)), (show (cf731 48).toInt = (cf 48).toInt from (oz_1687f4cc65 e688 e739)), (show (cf731 46).toInt = (cf 46).toInt from (oz_1687f4cc65 e689 e740)), (show (cf731 47).toInt = (cf 47).toInt from (oz_1687f4cc65 e690 e741)), (show (cf731 57).toInt = (cf 57).toInt from (oz_1687f4cc65 e691 e742)), (show ZPl cf731 na ma p0 p1.toInt from (zr_no (by omega))), (show R_mp_checkPlace ta na ca p0 p1 cf cf731 from (Or.inl (Or.inr ⟨nc1, Or.inr ⟨nc352, v675, e678, cf680, e702, z703, ez703, Or.inl ⟨nc704, z706, ez706, Or.inr ⟨nc707, Or.inr ⟨nc710, z713, ez713, v715, e720, z721, ez721, Or.inl ⟨nc722, v726, e729, cf731, e753, rfl⟩⟩⟩⟩⟩⟩)))⟩) d_Mpg_checkPlace_106 | (exact px_vret S hr hlk hAe hw (Nat.le_of_ble_eq_true rfl) (Nat.le_of_ble_eq_true rfl) (⟨cf731, rfl, (show KpE cf cf731 from hke), (show WrV cf731 (tf 6).toInt from hwr), (show (cf731 33).toInt = (cf 33).toInt from by first | exact oz_1687f4cc65 e686 e737 | omega), (show (cf731 38).toInt = (cf 38).toInt from by first | exact oz_1687f4cc65 e687 e738 | omega), (show (cf731 48).toInt = (cf 48).toInt from by first | exact oz_1687f4cc65 e688 e739 | omega), (show (cf731 46).toInt = (cf 46).toInt from by first | exact oz_1687f4cc65 e689 e740 | omega), (show (cf731 47).toInt = (cf 47).toInt from by first | exact oz_1687f4cc65 e690 e741 | omega), (show (cf731 57).toInt = (cf 57).toInt from by first | exact oz_1687f4cc65 e691 e742 | omega), (show ZPl cf731 na ma p0 p1.toInt from (zr_no (by omega))), (show R_mp_checkPlace ta na ca p0 p1 cf cf731 from (Or.inl (Or.inr ⟨nc1, Or.inr ⟨nc352, v675, e678, cf680, e702, z703, ez703, Or.inl ⟨nc704, z706, ez706, Or.inr ⟨nc707, Or.inr ⟨nc710, z713, ez713, v715, e720, z721, ez721, Or.inl ⟨nc722, v726, e729, cf731, e753, rfl⟩⟩⟩⟩⟩⟩)))⟩) d_Mpg_checkPlace_106)
            · have nc722 : z721.toInt = (1 : Int) := (i_eq (x := z721) (y := 1)).mp c722
              refine lv_iconst (v := 1) S.x S.b d_Mpg_checkPlace_85 (by decide) ?_
              refine lv_goto (tgt := 90) S.x S.b d_Mpg_checkPlace_86 (by decide) ?_
              refine lv_istore_n (lv' := [(3, .int 1), (0, .ref h), (1, .int p0), (2, .int p1)]) S.x S.b d_Mpg_checkPlace_90 rfl hl (by decide) rfl (fun ls hl => ?_)
              refine lv_iload_n S.x S.b d_Mpg_checkPlace_91 rfl (lv_at hl 0 rfl) ?_
              refine lv_if_ne (tgt := 106) S.x S.b d_Mpg_checkPlace_92 (by decide) (fun c754 => ?_) (fun c754 => ?_)
              ·
                first | exact px_vret S hr hlk hAe hw (Nat.le_of_ble_eq_true rfl) (Nat.le_of_ble_eq_true rfl) (⟨cf680, rfl, (show KpE cf cf680 from hke), (show WrV cf680 (tf 6).toInt from hwr), (show (cf680 33).toInt = (cf 33).toInt from e686), (show (cf680 38).toInt = (cf 38).toInt from e687), (show (cf680 48).toInt = (cf 48).toInt from e688), (show (cf680 46).toInt = (cf 46).toInt from e689), (show (cf680 47).toInt = (cf 47).toInt from e690), (show (cf680 57).toInt = (cf 57).toInt from e691), (show ZPl cf680 na ma p0 p1.toInt from (zr_no (by omega))), (show R_mp_checkPlace ta na ca p0 p1 cf cf680 from (Or.inl (Or.inr ⟨nc1, Or.inr ⟨nc352, v675, e678, cf680, e702, z703, ez703, Or.inl ⟨nc704, z706, ez706, Or.inr ⟨nc707, Or.inr ⟨nc710, z713, ez713, v715, e720, z721, ez721, Or.inr ⟨nc722, rfl⟩⟩⟩⟩⟩⟩)))⟩) d_Mpg_checkPlace_106 | (exact px_vret S hr hlk hAe hw (Nat.le_of_ble_eq_true rfl) (Nat.le_of_ble_eq_true rfl) (⟨cf680, rfl, (show KpE cf cf680 from hke), (show WrV cf680 (tf 6).toInt from hwr), (show (cf680 33).toInt = (cf 33).toInt from by first | exact e686 | omega), (show (cf680 38).toInt = (cf 38).toInt from by first | exact e687 | omega), (show (cf680 48).toInt = (cf 48).toInt from by first | exact e688 | omega), (show (cf680 46).toInt = (cf 46).toInt from by first | exact e689 | omega), (show (cf680 47).toInt = (cf 47).toInt from by first | exact e690 | omega), (show (cf680 57).toInt = (cf 57).toInt from by first | exact e691 | omega), (show ZPl cf680 na ma p0 p1.toInt from (zr_no (by omega))), (show R_mp_checkPlace ta na ca p0 p1 cf cf680 from (Or.inl (Or.inr ⟨nc1, Or.inr ⟨nc352, v675, e678, cf680, e702, z703, ez703, Or.inl ⟨nc704, z706, ez706, Or.inr ⟨nc707, Or.inr ⟨nc710, z713, ez713, v715, e720, z721, ez721, Or.inr ⟨nc722, rfl⟩⟩⟩⟩⟩⟩)))⟩) d_Mpg_checkPlace_106)
              · exact absurd c754 (by decide)
      · have nc704 : ¬ z703.toInt = (4 : Int) := mt (i_eq (x := z703) (y := 4)).mpr c704
        refine lv_aload_n S.x S.b d_Mpg_checkPlace_30 rfl (lv_at hl 0 rfl) ?_
        refine gP_14 S hT hw 0 rfl m9_238 d_Mpg_checkPlace_31 ?_
        refine lv_iload_n S.x S.b d_Mpg_checkPlace_34 rfl (lv_at hl 1 rfl) ?_
        refine px_bald S hT hw 0 10 (n := 2100) (f := (na 14)) rfl gp_14 (x := p0) (vp_in_iff.mpr (by first | exact oz_a7e05de1cd hrg.2.2 hrg.2.1 g1 g2 | (constructor <;> omega))) d_Mpg_checkPlace_35 ?_
        refine lv_topi (fun z755 ez755 => ?_)
        have lz755 := Int32.le_toInt z755
        have uz755 := Int32.toInt_lt z755
        have rz755 := EcV.kd hec_p0 ez755
        refine lv_iconst (v := 2) S.x S.b d_Mpg_checkPlace_36 (by decide) ?_
        refine lv_icmp_ne (tgt := 48) S.x S.b d_Mpg_checkPlace_37 (by decide) (fun c756 => ?_) (fun c756 => ?_)
        · have nc756 : ¬ z755.toInt = (2 : Int) := mt (i_eq (x := z755) (y := 2)).mpr c756
          refine lv_iconst (v := 0) S.x S.b d_Mpg_checkPlace_48 (by decide) ?_
          refine lv_istore_n (lv' := [(3, .int 0), (0, .ref h), (1, .int p0), (2, .int p1)]) S.x S.b d_Mpg_checkPlace_49 rfl hl (by decide) rfl (fun ls hl => ?_)
          refine lv_aload_n S.x S.b d_Mpg_checkPlace_50 rfl (lv_at hl 1 rfl) ?_
          refine gP_14 S hT hw 0 rfl m9_238 d_Mpg_checkPlace_51 ?_
          refine lv_iload_n S.x S.b d_Mpg_checkPlace_54 rfl (lv_at hl 2 rfl) ?_
          refine px_bald S hT hw 0 10 (n := 2100) (f := (na 14)) rfl gp_14 (x := p0) (vp_in_iff.mpr (by first | exact oz_a7e05de1cd hrg.2.2 hrg.2.1 g1 g2 | (constructor <;> omega))) d_Mpg_checkPlace_55 ?_
          refine lv_topi (fun z758 ez758 => ?_)
          have lz758 := Int32.le_toInt z758
          have uz758 := Int32.toInt_lt z758
          have rz758 := EcV.kd hec_p0 ez758
          refine lv_iconst (v := 2) S.x S.b d_Mpg_checkPlace_56 (by decide) ?_
          refine lv_icmp_ne (tgt := 91) S.x S.b d_Mpg_checkPlace_57 (by decide) (fun c759 => ?_) (fun c759 => ?_)
          · have nc759 : ¬ z758.toInt = (2 : Int) := mt (i_eq (x := z758) (y := 2)).mpr c759
            refine lv_iload_n S.x S.b d_Mpg_checkPlace_91 rfl (lv_at hl 0 rfl) ?_
            refine lv_if_ne (tgt := 106) S.x S.b d_Mpg_checkPlace_92 (by decide) (fun c761 => ?_) (fun c761 => ?_)
            · exact absurd c761 (by decide)
            ·
              refine lv_aload_n S.x S.b d_Mpg_checkPlace_95 rfl (lv_at hl 1 rfl) ?_
              refine lv_bipush (v := 6) S.x S.b d_Mpg_checkPlace_96 (by decide) ?_
              refine lv_aload_n S.x S.b d_Mpg_checkPlace_98 rfl (lv_at hl 1 rfl) ?_
              refine lv_iload_n S.x S.b d_Mpg_checkPlace_99 rfl (lv_at hl 2 rfl) ?_
              first | refine px_calli (pr := []) (px_runV (As := [.int p0]) (rest := [.int 6, .ref h]) S (c_mp_first l D cs h r g tf ta pf na ma wa cf680 ca ef ea xf xa p0  (show 0 ≤ p0.toInt from hrg.2.2) (show p0.toInt < (pf 13).toInt from (oz_7319c2f99d g1 hrg.2.1)) (show (pf 13).toInt ≤ 2100 from g2) htk (FsI.le (N' := (pf 13).toInt) hfs (by omega)) _) hT (pr := []) (pcs := [wdP cs h r g tf ta pf na ma wa cf680 ca ef ea xf xa]) hw px_X.tt (px_recv hT hw 0 0 rfl rfl rfl) m13_9 m13_6 m13_8 ms_12_15 m1_21 q_Mpg_first ⟨Nat.le_of_ble_eq_true rfl, Nat.le_of_ble_eq_true rfl⟩ hl.1 rfl (Nat.le_of_ble_eq_true rfl) d_Mpg_checkPlace_100 ⟨Nat.le_of_ble_eq_true rfl, Nat.le_of_ble_eq_true rfl⟩) hw hA (fun v763 p762 H locs hp762 hw => ?_) | (refine px_calli (pr := []) (px_runV (As := [.int p0]) (rest := [.int 6, .ref h]) S (c_mp_first l D cs h r g tf ta pf na ma wa cf680 ca ef ea xf xa p0  (show 0 ≤ p0.toInt from by first | exact hrg.2.2 | omega) (show p0.toInt < (pf 13).toInt from by first | exact oz_7319c2f99d g1 hrg.2.1 | omega) (show (pf 13).toInt ≤ 2100 from by first | exact g2 | omega) htk (FsI.le (N' := (pf 13).toInt) hfs (by omega)) _) hT (pr := []) (pcs := [wdP cs h r g tf ta pf na ma wa cf680 ca ef ea xf xa]) hw px_X.tt (px_recv hT hw 0 0 rfl rfl rfl) m13_9 m13_6 m13_8 ms_12_15 m1_21 q_Mpg_first ⟨Nat.le_of_ble_eq_true rfl, Nat.le_of_ble_eq_true rfl⟩ hl.1 rfl (Nat.le_of_ble_eq_true rfl) d_Mpg_checkPlace_100 ⟨Nat.le_of_ble_eq_true rfl, Nat.le_of_ble_eq_true rfl⟩) hw hA (fun v763 p762 H locs hp762 hw => ?_))
              obtain ⟨rfl, e764, e765, e766⟩ := hp762
              have e764 : 0 ≤ v763.toInt := e764
              have e765 : v763.toInt < (tf 6).toInt := e765
              have e766 : R_mp_first na p0 v763 := e766
              have lv763 := Int32.le_toInt v763
              have uv763 := Int32.toInt_lt v763
              first | refine px_callv (pr := []) (px_runV (As := [.int 6, .int v763]) (rest := []) S (c_mp_bad l D cs h r g tf ta pf na ma wa ca ef ea xf xa cf680 6 v763  (show 1 ≤ (6 : Int) from oz_2c1e0e66aa) (show 0 ≤ v763.toInt from e764) (show v763.toInt < (tf 6).toInt from e765) htk hwr _) hT (pr := []) (pcs := [wdP cs h r g tf ta pf na ma wa cf680 ca ef ea xf xa]) hw px_X.tt (px_recv hT hw 0 0 rfl rfl rfl) m12_173 m12_170 m12_172 ms_11_12 m1_21 q_Mpg_bad ⟨Nat.le_of_ble_eq_true rfl, Nat.le_of_ble_eq_true rfl⟩ hl.1 rfl (Nat.le_of_ble_eq_true rfl) d_Mpg_checkPlace_103 ⟨Nat.le_of_ble_eq_true rfl, Nat.le_of_ble_eq_true rfl⟩) hw hA (fun p769 H locs hp769 hw => ?_) | (refine px_callv (pr := []) (px_runV (As := [.int 6, .int v763]) (rest := []) S (c_mp_bad l D cs h r g tf ta pf na ma wa ca ef ea xf xa cf680 6 v763  (show 1 ≤ (6 : Int) from by first | exact oz_2c1e0e66aa | omega) (show 0 ≤ v763.toInt from by first | exact e764 | omega) (show v763.toInt < (tf 6).toInt from by first | exact e765 | omega) htk hwr _) hT (pr := []) (pcs := [wdP cs h r g tf ta pf na ma wa cf680 ca ef ea xf xa]) hw px_X.tt (px_recv hT hw 0 0 rfl rfl rfl) m12_173 m12_170 m12_172 ms_11_12 m1_21 q_Mpg_bad ⟨Nat.le_of_ble_eq_true rfl, Nat.le_of_ble_eq_true rfl⟩ hl.1 rfl (Nat.le_of_ble_eq_true rfl) d_Mpg_checkPlace_103 ⟨Nat.le_of_ble_eq_true rfl, Nat.le_of_ble_eq_true rfl⟩) hw hA (fun p769 H locs hp769 hw => ?_))
              obtain ⟨cf768, rfl, e771, e772, e773, e774, e775, e776, e777, e778, e779, e780, e781, e782, e783, e784, e785, e786, e787, e788, e789, e790⟩ := hp769
              have e771 : KpE cf680 cf768 := e771
              have hke := (hke).tr e771
              have hkz_e771 := e771.2
              have e772 : WrV cf768 (tf 6).toInt := e772
              have hwr := e772
              have hw0_e772 := hwr.1
              have e773 : 1 ≤ (cf768 30).toInt := e773
              have e774 : (cf768 33).toInt = (cf680 33).toInt := e774
              have e775 : (cf768 38).toInt = (cf680 38).toInt := e775
              have e776 : (cf768 48).toInt = (cf680 48).toInt := e776
              have e777 : (cf768 46).toInt = (cf680 46).toInt := e777
              have e778 : (cf768 47).toInt = (cf680 47).toInt := e778
              have e779 : (cf768 57).toInt = (cf680 57).toInt := e779
              have e780 : (cf768 37).toInt = (cf680 37).toInt := e780
              have e781 : (cf768 42).toInt = (cf680 42).toInt := e781
              have e782 : (cf768 43).toInt = (cf680 43).toInt := e782
              have e783 : (cf768 44).toInt = (cf680 44).toInt := e783
              have e784 : (cf768 45).toInt = (cf680 45).toInt := e784
              have e785 : (cf768 54).toInt = (cf680 54).toInt := e785
              have e786 : (cf768 55).toInt = (cf680 55).toInt := e786
              have e787 : (cf768 58).toInt = (cf680 58).toInt := e787
              have e788 : (cf768 59).toInt = (cf680 59).toInt := e788
              have e789 : (cf768 41).toInt = (cf680 41).toInt := e789
              have e790 : R_mp_bad (6 : Int32) v763 cf680 cf768 := e790
              first | exact px_vret S hr hlk hAe hw (Nat.le_of_ble_eq_true rfl) (Nat.le_of_ble_eq_true rfl) (⟨cf768, rfl, (show KpE cf cf768 from hke), (show WrV cf768 (tf 6).toInt from hwr), (show (cf768 33).toInt = (cf 33).toInt from (oz_1687f4cc65 e686 e774)), (show (cf768 38).toInt = (cf 38).toInt from (oz_1687f4cc65 e687 e775)), (show (cf768 48).toInt = (cf 48).toInt from (oz_1687f4cc65 e688 e776)), (show (cf768 46).toInt = (cf 46).toInt from (oz_1687f4cc65 e689 e777)), (show (cf768 47).toInt = (cf 47).toInt from (oz_1687f4cc65 e690 e778)), (show (cf768 57).toInt = (cf 57).toInt from (oz_1687f4cc65 e691 e779)), (show ZPl cf768 na ma p0 p1.toInt from (zr_no (by omega))), (show R_mp_checkPlace ta na ca p0 p1 cf cf768 from (Or.inl (Or.inr ⟨nc1, Or.inr ⟨nc352, v675, e678, cf680, e702, z703, ez703, Or.inr ⟨nc704, z755, ez755, Or.inl ⟨nc756, z758, ez758, Or.inl ⟨nc759, v763, e766, cf768, e790, rfl⟩⟩⟩⟩⟩)))⟩) d_Mpg_checkPlace_106 | (exact px_vret S hr hlk hAe hw (Nat.le_of_ble_eq_true rfl) (Nat.le_of_ble_eq_true rfl) (⟨cf768, rfl, (show KpE cf cf768 from hke), (show WrV cf768 (tf 6).toInt from hwr), (show (cf768 33).toInt = (cf 33).toInt from by first | exact oz_1687f4cc65 e686 e774 | omega), (show (cf768 38).toInt = (cf 38).toInt from by first | exact oz_1687f4cc65 e687 e775 | omega), (show (cf768 48).toInt = (cf 48).toInt from by first | exact oz_1687f4cc65 e688 e776 | omega), (show (cf768 46).toInt = (cf 46).toInt from by first | exact oz_1687f4cc65 e689 e777 | omega), (show (cf768 47).toInt = (cf 47).toInt from by first | exact oz_1687f4cc65 e690 e778 | omega), (show (cf768 57).toInt = (cf 57).toInt from by first | exact oz_1687f4cc65 e691 e779 | omega), (show ZPl cf768 na ma p0 p1.toInt from (zr_no (by omega))), (show R_mp_checkPlace ta na ca p0 p1 cf cf768 from (Or.inl (Or.inr ⟨nc1, Or.inr ⟨nc352, v675, e678, cf680, e702, z703, ez703, Or.inr ⟨nc704, z755, ez755, Or.inl ⟨nc756, z758, ez758, Or.inl ⟨nc759, v763, e766, cf768, e790, rfl⟩⟩⟩⟩⟩)))⟩) d_Mpg_checkPlace_106)
          · have nc759 : z758.toInt = (2 : Int) := (i_eq (x := z758) (y := 2)).mp c759
            refine lv_iload_n S.x S.b d_Mpg_checkPlace_60 rfl (lv_at hl 3 rfl) ?_
            refine lv_iconst (v := 1) S.x S.b d_Mpg_checkPlace_61 (by decide) ?_
            refine lv_icmp_ne (tgt := 91) S.x S.b d_Mpg_checkPlace_62 (by decide) (fun c791 => ?_) (fun c791 => ?_)
            · have nc791 : ¬ p1.toInt = (1 : Int) := mt (i_eq (x := p1) (y := 1)).mpr c791
              refine lv_iload_n S.x S.b d_Mpg_checkPlace_91 rfl (lv_at hl 0 rfl) ?_
              refine lv_if_ne (tgt := 106) S.x S.b d_Mpg_checkPlace_92 (by decide) (fun c793 => ?_) (fun c793 => ?_)
              · exact absurd c793 (by decide)
              ·
                refine lv_aload_n S.x S.b d_Mpg_checkPlace_95 rfl (lv_at hl 1 rfl) ?_
                refine lv_bipush (v := 6) S.x S.b d_Mpg_checkPlace_96 (by decide) ?_
                refine lv_aload_n S.x S.b d_Mpg_checkPlace_98 rfl (lv_at hl 1 rfl) ?_
                refine lv_iload_n S.x S.b d_Mpg_checkPlace_99 rfl (lv_at hl 2 rfl) ?_
                first | refine px_calli (pr := []) (px_runV (As := [.int p0]) (rest := [.int 6, .ref h]) S (c_mp_first l D cs h r g tf ta pf na ma wa cf680 ca ef ea xf xa p0  (show 0 ≤ p0.toInt from hrg.2.2) (show p0.toInt < (pf 13).toInt from (oz_7319c2f99d g1 hrg.2.1)) (show (pf 13).toInt ≤ 2100 from g2) htk (FsI.le (N' := (pf 13).toInt) hfs (by omega)) _) hT (pr := []) (pcs := [wdP cs h r g tf ta pf na ma wa cf680 ca ef ea xf xa]) hw px_X.tt (px_recv hT hw 0 0 rfl rfl rfl) m13_9 m13_6 m13_8 ms_12_15 m1_21 q_Mpg_first ⟨Nat.le_of_ble_eq_true rfl, Nat.le_of_ble_eq_true rfl⟩ hl.1 rfl (Nat.le_of_ble_eq_true rfl) d_Mpg_checkPlace_100 ⟨Nat.le_of_ble_eq_true rfl, Nat.le_of_ble_eq_true rfl⟩) hw hA (fun v795 p794 H locs hp794 hw => ?_) | (refine px_calli (pr := []) (px_runV (As := [.int p0]) (rest := [.int 6, .ref h]) S (c_mp_first l D cs h r g tf ta pf na ma wa cf680 ca ef ea xf xa p0  (show 0 ≤ p0.toInt from by first | exact hrg.2.2 | omega) (show p0.toInt < (pf 13).toInt from by first | exact oz_7319c2f99d g1 hrg.2.1 | omega) (show (pf 13).toInt ≤ 2100 from by first | exact g2 | omega) htk (FsI.le (N' := (pf 13).toInt) hfs (by omega)) _) hT (pr := []) (pcs := [wdP cs h r g tf ta pf na ma wa cf680 ca ef ea xf xa]) hw px_X.tt (px_recv hT hw 0 0 rfl rfl rfl) m13_9 m13_6 m13_8 ms_12_15 m1_21 q_Mpg_first ⟨Nat.le_of_ble_eq_true rfl, Nat.le_of_ble_eq_true rfl⟩ hl.1 rfl (Nat.le_of_ble_eq_true rfl) d_Mpg_checkPlace_100 ⟨Nat.le_of_ble_eq_true rfl, Nat.le_of_ble_eq_true rfl⟩) hw hA (fun v795 p794 H locs hp794 hw => ?_))
                obtain ⟨rfl, e796, e797, e798⟩ := hp794
                have e796 : 0 ≤ v795.toInt := e796
                have e797 : v795.toInt < (tf 6).toInt := e797
                have e798 : R_mp_first na p0 v795 := e798
                have lv795 := Int32.le_toInt v795
                have uv795 := Int32.toInt_lt v795
                first | refine px_callv (pr := []) (px_runV (As := [.int 6, .int v795]) (rest := []) S (c_mp_bad l D cs h r g tf ta pf na ma wa ca ef ea xf xa cf680 6 v795  (show 1 ≤ (6 : Int) from oz_2c1e0e66aa) (show 0 ≤ v795.toInt from e796) (show v795.toInt < (tf 6).toInt from e797) htk hwr _) hT (pr := []) (pcs := [wdP cs h r g tf ta pf na ma wa cf680 ca ef ea xf xa]) hw px_X.tt (px_recv hT hw 0 0 rfl rfl rfl) m12_173 m12_170 m12_172 ms_11_12 m1_21 q_Mpg_bad ⟨Nat.le_of_ble_eq_true rfl, Nat.le_of_ble_eq_true rfl⟩ hl.1 rfl (Nat.le_of_ble_eq_true rfl) d_Mpg_checkPlace_103 ⟨Nat.le_of_ble_eq_true rfl, Nat.le_of_ble_eq_true rfl⟩) hw hA (fun p801 H locs hp801 hw => ?_) | (refine px_callv (pr := []) (px_runV (As := [.int 6, .int v795]) (rest := []) S (c_mp_bad l D cs h r g tf ta pf na ma wa ca ef ea xf xa cf680 6 v795  (show 1 ≤ (6 : Int) from by first | exact oz_2c1e0e66aa | omega) (show 0 ≤ v795.toInt from by first | exact e796 | omega) (show v795.toInt < (tf 6).toInt from by first | exact e797 | omega) htk hwr _) hT (pr := []) (pcs := [wdP cs h r g tf ta pf na ma wa cf680 ca ef ea xf xa]) hw px_X.tt (px_recv hT hw 0 0 rfl rfl rfl) m12_173 m12_170 m12_172 ms_11_12 m1_21 q_Mpg_bad ⟨Nat.le_of_ble_eq_true rfl, Nat.le_of_ble_eq_true rfl⟩ hl.1 rfl (Nat.le_of_ble_eq_true rfl) d_Mpg_checkPlace_103 ⟨Nat.le_of_ble_eq_true rfl, Nat.le_of_ble_eq_true rfl⟩) hw hA (fun p801 H locs hp801 hw => ?_))
                obtain ⟨cf800, rfl, e803, e804, e805, e806, e807, e808, e809, e810, e811, e812, e813, e814, e815, e816, e817, e818, e819, e820, e821, e822⟩ := hp801
                have e803 : KpE cf680 cf800 := e803
                have hke := (hke).tr e803
                have hkz_e803 := e803.2
                have e804 : WrV cf800 (tf 6).toInt := e804
                have hwr := e804
                have hw0_e804 := hwr.1
                have e805 : 1 ≤ (cf800 30).toInt := e805
                have e806 : (cf800 33).toInt = (cf680 33).toInt := e806
                have e807 : (cf800 38).toInt = (cf680 38).toInt := e807
                have e808 : (cf800 48).toInt = (cf680 48).toInt := e808
                have e809 : (cf800 46).toInt = (cf680 46).toInt := e809
                have e810 : (cf800 47).toInt = (cf680 47).toInt := e810
                have e811 : (cf800 57).toInt = (cf680 57).toInt := e811
                have e812 : (cf800 37).toInt = (cf680 37).toInt := e812
                have e813 : (cf800 42).toInt = (cf680 42).toInt := e813
                have e814 : (cf800 43).toInt = (cf680 43).toInt := e814
                have e815 : (cf800 44).toInt = (cf680 44).toInt := e815
                have e816 : (cf800 45).toInt = (cf680 45).toInt := e816
                have e817 : (cf800 54).toInt = (cf680 54).toInt := e817
                have e818 : (cf800 55).toInt = (cf680 55).toInt := e818
                have e819 : (cf800 58).toInt = (cf680 58).toInt := e819
                have e820 : (cf800 59).toInt = (cf680 59).toInt := e820
                have e821 : (cf800 41).toInt = (cf680 41).toInt := e821
                have e822 : R_mp_bad (6 : Int32) v795 cf680 cf800 := e822
                first | exact px_vret S hr hlk hAe hw (Nat.le_of_ble_eq_true rfl) (Nat.le_of_ble_eq_true rfl) (⟨cf800, rfl, (show KpE cf cf800 from hke), (show WrV cf800 (tf 6).toInt from hwr), (show (cf800 33).toInt = (cf 33).toInt from (oz_1687f4cc65 e686 e806)), (show (cf800 38).toInt = (cf 38).toInt from (oz_1687f4cc65 e687 e807)), (show (cf800 48).toInt = (cf 48).toInt from (oz_1687f4cc65 e688 e808)), (show (cf800 46).toInt = (cf 46).toInt from (oz_1687f4cc65 e689 e809)), (show (cf800 47).toInt = (cf 47).toInt from (oz_1687f4cc65 e690 e810)), (show (cf800 57).toInt = (cf 57).toInt from (oz_1687f4cc65 e691 e811)), (show ZPl cf800 na ma p0 p1.toInt from (zr_no (by omega))), (show R_mp_checkPlace ta na ca p0 p1 cf cf800 from (Or.inl (Or.inr ⟨nc1, Or.inr ⟨nc352, v675, e678, cf680, e702, z703, ez703, Or.inr ⟨nc704, z755, ez755, Or.inl ⟨nc756, z758, ez758, Or.inr ⟨nc759, Or.inl ⟨nc791, v795, e798, cf800, e822, rfl⟩⟩⟩⟩⟩⟩)))⟩) d_Mpg_checkPlace_106 | (exact px_vret S hr hlk hAe hw (Nat.le_of_ble_eq_true rfl) (Nat.le_of_ble_eq_true rfl) (⟨cf800, rfl, (show KpE cf cf800 from hke), (show WrV cf800 (tf 6).toInt from hwr), (show (cf800 33).toInt = (cf 33).toInt from by first | exact oz_1687f4cc65 e686 e806 | omega), (show (cf800 38).toInt = (cf 38).toInt from by first | exact oz_1687f4cc65 e687 e807 | omega), (show (cf800 48).toInt = (cf 48).toInt from by first | exact oz_1687f4cc65 e688 e808 | omega), (show (cf800 46).toInt = (cf 46).toInt from by first | exact oz_1687f4cc65 e689 e809 | omega), (show (cf800 47).toInt = (cf 47).toInt from by first | exact oz_1687f4cc65 e690 e810 | omega), (show (cf800 57).toInt = (cf 57).toInt from by first | exact oz_1687f4cc65 e691 e811 | omega), (show ZPl cf800 na ma p0 p1.toInt from (zr_no (by omega))), (show R_mp_checkPlace ta na ca p0 p1 cf cf800 from (Or.inl (Or.inr ⟨nc1, Or.inr ⟨nc352, v675, e678, cf680, e702, z703, ez703, Or.inr ⟨nc704, z755, ez755, Or.inl ⟨nc756, z758, ez758, Or.inr ⟨nc759, Or.inl ⟨nc791, v795, e798, cf800, e822, rfl⟩⟩⟩⟩⟩⟩)))⟩) d_Mpg_checkPlace_106)
            · have nc791 : p1.toInt = (1 : Int) := (i_eq (x := p1) (y := 1)).mp c791
              refine lv_aload_n S.x S.b d_Mpg_checkPlace_65 rfl (lv_at hl 1 rfl) ?_
              refine gP_35 S hT hw 0 rfl m10_24 d_Mpg_checkPlace_66 ?_
              refine lv_aload_n S.x S.b d_Mpg_checkPlace_69 rfl (lv_at hl 1 rfl) ?_
              refine lv_aload_n S.x S.b d_Mpg_checkPlace_70 rfl (lv_at hl 1 rfl) ?_
              refine gP_15 S hT hw 0 rfl m9_239 d_Mpg_checkPlace_71 ?_
              refine lv_iload_n S.x S.b d_Mpg_checkPlace_74 rfl (lv_at hl 2 rfl) ?_
              refine px_iald S hT hw 0 11 (n := 2100) (f := (na 15)) rfl gp_15 (x := p0) (vp_in_iff.mpr (by first | exact oz_a7e05de1cd hrg.2.2 hrg.2.1 g1 g2 | (constructor <;> omega))) d_Mpg_checkPlace_75 ?_
              refine lv_topi (fun z823 ez823 => ?_)
              have lz823 := Int32.le_toInt z823
              have uz823 := Int32.toInt_lt z823
              have rz823 := EcV.tok hec_p0 ez823
              refine lv_iconst (v := 0) S.x S.b d_Mpg_checkPlace_76 (by decide) ?_
              first | refine px_calli (pr := []) (px_runV (As := [.int z823, .int 0]) (rest := [.ref (r 35)]) S (c_mp_find l D cs h r g tf ta pf na ma wa cf680 ca ef ea xf xa z823 0  (show 0 ≤ z823.toInt from rz823.1) (show z823.toInt < (tf 6).toInt from (oz_7fe81129bf rz823.2)) (show (tf 6).toInt ≤ 2049 from g3) (show 0 ≤ (0 : Int) from oz_5a341f00aa) (show 0 ≤ (cf680 33).toInt from (oz_e2fef14871 e686 g4 g5)) htk (KnT.eq hkt (by omega)) _) hT (pr := []) (pcs := [wdP cs h r g tf ta pf na ma wa cf680 ca ef ea xf xa]) hw px_X.tt (px_recv hT hw 0 0 rfl rfl rfl) m12_181 m12_178 m12_180 ms_11_14 m1_21 q_Mpg_find ⟨Nat.le_of_ble_eq_true rfl, Nat.le_of_ble_eq_true rfl⟩ hl.1 rfl (Nat.le_of_ble_eq_true rfl) d_Mpg_checkPlace_77 ⟨Nat.le_of_ble_eq_true rfl, Nat.le_of_ble_eq_true rfl⟩) hw hA (fun v825 p824 H locs hp824 hw => ?_) | (refine px_calli (pr := []) (px_runV (As := [.int z823, .int 0]) (rest := [.ref (r 35)]) S (c_mp_find l D cs h r g tf ta pf na ma wa cf680 ca ef ea xf xa z823 0  (show 0 ≤ z823.toInt from by first | exact rz823.1 | omega) (show z823.toInt < (tf 6).toInt from by first | exact oz_7fe81129bf rz823.2 | omega) (show (tf 6).toInt ≤ 2049 from by first | exact g3 | omega) (show 0 ≤ (0 : Int) from by first | exact oz_5a341f00aa | omega) (show 0 ≤ (cf680 33).toInt from by first | exact oz_e2fef14871 e686 g4 g5 | omega) htk (KnT.eq hkt (by omega)) _) hT (pr := []) (pcs := [wdP cs h r g tf ta pf na ma wa cf680 ca ef ea xf xa]) hw px_X.tt (px_recv hT hw 0 0 rfl rfl rfl) m12_181 m12_178 m12_180 ms_11_14 m1_21 q_Mpg_find ⟨Nat.le_of_ble_eq_true rfl, Nat.le_of_ble_eq_true rfl⟩ hl.1 rfl (Nat.le_of_ble_eq_true rfl) d_Mpg_checkPlace_77 ⟨Nat.le_of_ble_eq_true rfl, Nat.le_of_ble_eq_true rfl⟩) hw hA (fun v825 p824 H locs hp824 hw => ?_))
              obtain ⟨rfl, e826, e827, e828, e829, e830⟩ := hp824
              have e826 : -1 ≤ v825.toInt := e826
              have e827 : v825.toInt < (cf680 33).toInt := e827
              have e828 : 0 ≤ v825.toInt → (0 : Int) ≤ v825.toInt := e828
              have e829 : FndV ta ca (cf680 33).toInt z823 (0 : Int) v825.toInt := e829
              have hfd := e829
              have e830 : R_mp_find ta cf680 ca z823 (0 : Int32) v825 := e830
              have lv825 := Int32.le_toInt v825
              have uv825 := Int32.toInt_lt v825
              have hps := nm_pos (hnj (by omega)) (by omega) hfd ez823 (by omega)
              refine px_iald S hT hw 0 24 (n := 1100) (f := (ca 35)) rfl gp_35 (x := v825) (vp_in_iff.mpr (by constructor <;> omega)) d_Mpg_checkPlace_80 ?_
              refine lv_topi (fun z831 ez831 => ?_)
              have lz831 := Int32.le_toInt z831
              have uz831 := Int32.toInt_lt z831
              refine lv_iconst (v := 1) S.x S.b d_Mpg_checkPlace_81 (by decide) ?_
              refine lv_icmp_ne (tgt := 89) S.x S.b d_Mpg_checkPlace_82 (by decide) (fun c832 => ?_) (fun c832 => ?_)
              · have nc832 : ¬ z831.toInt = (1 : Int) := mt (i_eq (x := z831) (y := 1)).mpr c832
                refine lv_iconst (v := 0) S.x S.b d_Mpg_checkPlace_89 (by decide) ?_
                refine lv_istore_n (lv' := [(3, .int 0), (0, .ref h), (1, .int p0), (2, .int p1)]) S.x S.b d_Mpg_checkPlace_90 rfl hl (by decide) rfl (fun ls hl => ?_)
                refine lv_iload_n S.x S.b d_Mpg_checkPlace_91 rfl (lv_at hl 0 rfl) ?_
                refine lv_if_ne (tgt := 106) S.x S.b d_Mpg_checkPlace_92 (by decide) (fun c834 => ?_) (fun c834 => ?_)
                · exact absurd c834 (by decide)
                ·
                  refine lv_aload_n S.x S.b d_Mpg_checkPlace_95 rfl (lv_at hl 1 rfl) ?_
                  refine lv_bipush (v := 6) S.x S.b d_Mpg_checkPlace_96 (by decide) ?_
                  refine lv_aload_n S.x S.b d_Mpg_checkPlace_98 rfl (lv_at hl 1 rfl) ?_
                  refine lv_iload_n S.x S.b d_Mpg_checkPlace_99 rfl (lv_at hl 2 rfl) ?_
                  first | refine px_calli (pr := []) (px_runV (As := [.int p0]) (rest := [.int 6, .ref h]) S (c_mp_first l D cs h r g tf ta pf na ma wa cf680 ca ef ea xf xa p0  (show 0 ≤ p0.toInt from hrg.2.2) (show p0.toInt < (pf 13).toInt from (oz_7319c2f99d g1 hrg.2.1)) (show (pf 13).toInt ≤ 2100 from g2) htk (FsI.le (N' := (pf 13).toInt) hfs (by omega)) _) hT (pr := []) (pcs := [wdP cs h r g tf ta pf na ma wa cf680 ca ef ea xf xa]) hw px_X.tt (px_recv hT hw 0 0 rfl rfl rfl) m13_9 m13_6 m13_8 ms_12_15 m1_21 q_Mpg_first ⟨Nat.le_of_ble_eq_true rfl, Nat.le_of_ble_eq_true rfl⟩ hl.1 rfl (Nat.le_of_ble_eq_true rfl) d_Mpg_checkPlace_100 ⟨Nat.le_of_ble_eq_true rfl, Nat.le_of_ble_eq_true rfl⟩) hw hA (fun v836 p835 H locs hp835 hw => ?_) | (refine px_calli (pr := []) (px_runV (As := [.int p0]) (rest := [.int 6, .ref h]) S (c_mp_first l D cs h r g tf ta pf na ma wa cf680 ca ef ea xf xa p0  (show 0 ≤ p0.toInt from by first | exact hrg.2.2 | omega) (show p0.toInt < (pf 13).toInt from by first | exact oz_7319c2f99d g1 hrg.2.1 | omega) (show (pf 13).toInt ≤ 2100 from by first | exact g2 | omega) htk (FsI.le (N' := (pf 13).toInt) hfs (by omega)) _) hT (pr := []) (pcs := [wdP cs h r g tf ta pf na ma wa cf680 ca ef ea xf xa]) hw px_X.tt (px_recv hT hw 0 0 rfl rfl rfl) m13_9 m13_6 m13_8 ms_12_15 m1_21 q_Mpg_first ⟨Nat.le_of_ble_eq_true rfl, Nat.le_of_ble_eq_true rfl⟩ hl.1 rfl (Nat.le_of_ble_eq_true rfl) d_Mpg_checkPlace_100 ⟨Nat.le_of_ble_eq_true rfl, Nat.le_of_ble_eq_true rfl⟩) hw hA (fun v836 p835 H locs hp835 hw => ?_))
                  obtain ⟨rfl, e837, e838, e839⟩ := hp835
                  have e837 : 0 ≤ v836.toInt := e837
                  have e838 : v836.toInt < (tf 6).toInt := e838
                  have e839 : R_mp_first na p0 v836 := e839
                  have lv836 := Int32.le_toInt v836
                  have uv836 := Int32.toInt_lt v836
                  first | refine px_callv (pr := []) (px_runV (As := [.int 6, .int v836]) (rest := []) S (c_mp_bad l D cs h r g tf ta pf na ma wa ca ef ea xf xa cf680 6 v836  (show 1 ≤ (6 : Int) from oz_2c1e0e66aa) (show 0 ≤ v836.toInt from e837) (show v836.toInt < (tf 6).toInt from e838) htk hwr _) hT (pr := []) (pcs := [wdP cs h r g tf ta pf na ma wa cf680 ca ef ea xf xa]) hw px_X.tt (px_recv hT hw 0 0 rfl rfl rfl) m12_173 m12_170 m12_172 ms_11_12 m1_21 q_Mpg_bad ⟨Nat.le_of_ble_eq_true rfl, Nat.le_of_ble_eq_true rfl⟩ hl.1 rfl (Nat.le_of_ble_eq_true rfl) d_Mpg_checkPlace_103 ⟨Nat.le_of_ble_eq_true rfl, Nat.le_of_ble_eq_true rfl⟩) hw hA (fun p842 H locs hp842 hw => ?_) | (refine px_callv (pr := []) (px_runV (As := [.int 6, .int v836]) (rest := []) S (c_mp_bad l D cs h r g tf ta pf na ma wa ca ef ea xf xa cf680 6 v836  (show 1 ≤ (6 : Int) from by first | exact oz_2c1e0e66aa | omega) (show 0 ≤ v836.toInt from by first | exact e837 | omega) (show v836.toInt < (tf 6).toInt from by first | exact e838 | omega) htk hwr _) hT (pr := []) (pcs := [wdP cs h r g tf ta pf na ma wa cf680 ca ef ea xf xa]) hw px_X.tt (px_recv hT hw 0 0 rfl rfl rfl) m12_173 m12_170 m12_172 ms_11_12 m1_21 q_Mpg_bad ⟨Nat.le_of_ble_eq_true rfl, Nat.le_of_ble_eq_true rfl⟩ hl.1 rfl (Nat.le_of_ble_eq_true rfl) d_Mpg_checkPlace_103 ⟨Nat.le_of_ble_eq_true rfl, Nat.le_of_ble_eq_true rfl⟩) hw hA (fun p842 H locs hp842 hw => ?_))
                  obtain ⟨cf841, rfl, e844, e845, e846, e847, e848, e849, e850, e851, e852, e853, e854, e855, e856, e857, e858, e859, e860, e861, e862, e863⟩ := hp842
                  have e844 : KpE cf680 cf841 := e844
                  have hke := (hke).tr e844
                  have hkz_e844 := e844.2
                  have e845 : WrV cf841 (tf 6).toInt := e845
                  have hwr := e845
                  have hw0_e845 := hwr.1
                  have e846 : 1 ≤ (cf841 30).toInt := e846
                  have e847 : (cf841 33).toInt = (cf680 33).toInt := e847
                  have e848 : (cf841 38).toInt = (cf680 38).toInt := e848
                  have e849 : (cf841 48).toInt = (cf680 48).toInt := e849
                  have e850 : (cf841 46).toInt = (cf680 46).toInt := e850
                  have e851 : (cf841 47).toInt = (cf680 47).toInt := e851
                  have e852 : (cf841 57).toInt = (cf680 57).toInt := e852
                  have e853 : (cf841 37).toInt = (cf680 37).toInt := e853
                  have e854 : (cf841 42).toInt = (cf680 42).toInt := e854
                  have e855 : (cf841 43).toInt = (cf680 43).toInt := e855
                  have e856 : (cf841 44).toInt = (cf680 44).toInt := e856
                  have e857 : (cf841 45).toInt = (cf680 45).toInt := e857
                  have e858 : (cf841 54).toInt = (cf680 54).toInt := e858
                  have e859 : (cf841 55).toInt = (cf680 55).toInt := e859
                  have e860 : (cf841 58).toInt = (cf680 58).toInt := e860
                  have e861 : (cf841 59).toInt = (cf680 59).toInt := e861
                  have e862 : (cf841 41).toInt = (cf680 41).toInt := e862
                  have e863 : R_mp_bad (6 : Int32) v836 cf680 cf841 := e863
                  first | exact px_vret S hr hlk hAe hw (Nat.le_of_ble_eq_true rfl) (Nat.le_of_ble_eq_true rfl) (⟨cf841, rfl, (show KpE cf cf841 from hke), (show WrV cf841 (tf 6).toInt from hwr), (show (cf841 33).toInt = (cf 33).toInt from (oz_1687f4cc65 e686 e847)), (show (cf841 38).toInt = (cf 38).toInt from (oz_1687f4cc65 e687 e848)), (show (cf841 48).toInt = (cf 48).toInt from (oz_1687f4cc65 e688 e849)), (show (cf841 46).toInt = (cf 46).toInt from (oz_1687f4cc65 e689 e850)), (show (cf841 47).toInt = (cf 47).toInt from (oz_1687f4cc65 e690 e851)), (show (cf841 57).toInt = (cf 57).toInt from (oz_1687f4cc65 e691 e852)), (show ZPl cf841 na ma p0 p1.toInt from (zr_no (by omega))), (show R_mp_checkPlace ta na ca p0 p1 cf cf841 from (Or.inl (Or.inr ⟨nc1, Or.inr ⟨nc352, v675, e678, cf680, e702, z703, ez703, Or.inr ⟨nc704, z755, ez755, Or.inl ⟨nc756, z758, ez758, Or.inr ⟨nc759, Or.inr ⟨nc791, z823, ez823, v825, e830, z831, ez831, Or.inl ⟨nc832, v836, e839, cf841, e863, rfl⟩⟩⟩⟩⟩⟩⟩)))⟩) d_Mpg_checkPlace_106 | (exact px_vret S hr hlk hAe hw (Nat.le_of_ble_eq_true rfl) (Nat.le_of_ble_eq_true rfl) (⟨cf841, rfl, (show KpE cf cf841 from hke), (show WrV cf841 (tf 6).toInt from hwr), (show (cf841 33).toInt = (cf 33).toInt from by first | exact oz_1687f4cc65 e686 e847 | omega), (show (cf841 38).toInt = (cf 38).toInt from by first | exact oz_1687f4cc65 e687 e848 | omega), (show (cf841 48).toInt = (cf 48).toInt from by first | exact oz_1687f4cc65 e688 e849 | omega), (show (cf841 46).toInt = (cf 46).toInt from by first | exact oz_1687f4cc65 e689 e850 | omega), (show (cf841 47).toInt = (cf 47).toInt from by first | exact oz_1687f4cc65 e690 e851 | omega), (show (cf841 57).toInt = (cf 57).toInt from by first | exact oz_1687f4cc65 e691 e852 | omega), (show ZPl cf841 na ma p0 p1.toInt from (zr_no (by omega))), (show R_mp_checkPlace ta na ca p0 p1 cf cf841 from (Or.inl (Or.inr ⟨nc1, Or.inr ⟨nc352, v675, e678, cf680, e702, z703, ez703, Or.inr ⟨nc704, z755, ez755, Or.inl ⟨nc756, z758, ez758, Or.inr ⟨nc759, Or.inr ⟨nc791, z823, ez823, v825, e830, z831, ez831, Or.inl ⟨nc832, v836, e839, cf841, e863, rfl⟩⟩⟩⟩⟩⟩⟩)))⟩) d_Mpg_checkPlace_106)
              · have nc832 : z831.toInt = (1 : Int) := (i_eq (x := z831) (y := 1)).mp c832
                refine lv_iconst (v := 1) S.x S.b d_Mpg_checkPlace_85 (by decide) ?_
                refine lv_goto (tgt := 90) S.x S.b d_Mpg_checkPlace_86 (by decide) ?_
                refine lv_istore_n (lv' := [(3, .int 1), (0, .ref h), (1, .int p0), (2, .int p1)]) S.x S.b d_Mpg_checkPlace_90 rfl hl (by decide) rfl (fun ls hl => ?_)
                refine lv_iload_n S.x S.b d_Mpg_checkPlace_91 rfl (lv_at hl 0 rfl) ?_
                refine lv_if_ne (tgt := 106) S.x S.b d_Mpg_checkPlace_92 (by decide) (fun c864 => ?_) (fun c864 => ?_)
                ·
                  first | exact px_vret S hr hlk hAe hw (Nat.le_of_ble_eq_true rfl) (Nat.le_of_ble_eq_true rfl) (⟨cf680, rfl, (show KpE cf cf680 from hke), (show WrV cf680 (tf 6).toInt from hwr), (show (cf680 33).toInt = (cf 33).toInt from e686), (show (cf680 38).toInt = (cf 38).toInt from e687), (show (cf680 48).toInt = (cf 48).toInt from e688), (show (cf680 46).toInt = (cf 46).toInt from e689), (show (cf680 47).toInt = (cf 47).toInt from e690), (show (cf680 57).toInt = (cf 57).toInt from e691), (show ZPl cf680 na ma p0 p1.toInt from (zr_no (by omega))), (show R_mp_checkPlace ta na ca p0 p1 cf cf680 from (Or.inl (Or.inr ⟨nc1, Or.inr ⟨nc352, v675, e678, cf680, e702, z703, ez703, Or.inr ⟨nc704, z755, ez755, Or.inl ⟨nc756, z758, ez758, Or.inr ⟨nc759, Or.inr ⟨nc791, z823, ez823, v825, e830, z831, ez831, Or.inr ⟨nc832, rfl⟩⟩⟩⟩⟩⟩⟩)))⟩) d_Mpg_checkPlace_106 | (exact px_vret S hr hlk hAe hw (Nat.le_of_ble_eq_true rfl) (Nat.le_of_ble_eq_true rfl) (⟨cf680, rfl, (show KpE cf cf680 from hke), (show WrV cf680 (tf 6).toInt from hwr), (show (cf680 33).toInt = (cf 33).toInt from by first | exact e686 | omega), (show (cf680 38).toInt = (cf 38).toInt from by first | exact e687 | omega), (show (cf680 48).toInt = (cf 48).toInt from by first | exact e688 | omega), (show (cf680 46).toInt = (cf 46).toInt from by first | exact e689 | omega), (show (cf680 47).toInt = (cf 47).toInt from by first | exact e690 | omega), (show (cf680 57).toInt = (cf 57).toInt from by first | exact e691 | omega), (show ZPl cf680 na ma p0 p1.toInt from (zr_no (by omega))), (show R_mp_checkPlace ta na ca p0 p1 cf cf680 from (Or.inl (Or.inr ⟨nc1, Or.inr ⟨nc352, v675, e678, cf680, e702, z703, ez703, Or.inr ⟨nc704, z755, ez755, Or.inl ⟨nc756, z758, ez758, Or.inr ⟨nc759, Or.inr ⟨nc791, z823, ez823, v825, e830, z831, ez831, Or.inr ⟨nc832, rfl⟩⟩⟩⟩⟩⟩⟩)))⟩) d_Mpg_checkPlace_106)
                · exact absurd c864 (by decide)
        · have nc756 : z755.toInt = (2 : Int) := (i_eq (x := z755) (y := 2)).mp c756
          refine lv_iload_n S.x S.b d_Mpg_checkPlace_40 rfl (lv_at hl 2 rfl) ?_
          refine lv_if_ne (tgt := 48) S.x S.b d_Mpg_checkPlace_41 (by decide) (fun c865 => ?_) (fun c865 => ?_)
          · have nc865 : ¬ p1.toInt = (0 : Int) := mt (i_eq (x := p1) (y := 0)).mpr c865
            refine lv_iconst (v := 0) S.x S.b d_Mpg_checkPlace_48 (by decide) ?_
            refine lv_istore_n (lv' := [(3, .int 0), (0, .ref h), (1, .int p0), (2, .int p1)]) S.x S.b d_Mpg_checkPlace_49 rfl hl (by decide) rfl (fun ls hl => ?_)
            refine lv_aload_n S.x S.b d_Mpg_checkPlace_50 rfl (lv_at hl 1 rfl) ?_
            refine gP_14 S hT hw 0 rfl m9_238 d_Mpg_checkPlace_51 ?_
            refine lv_iload_n S.x S.b d_Mpg_checkPlace_54 rfl (lv_at hl 2 rfl) ?_
            refine px_bald S hT hw 0 10 (n := 2100) (f := (na 14)) rfl gp_14 (x := p0) (vp_in_iff.mpr (by first | exact oz_a7e05de1cd hrg.2.2 hrg.2.1 g1 g2 | (constructor <;> omega))) d_Mpg_checkPlace_55 ?_
            refine lv_topi (fun z867 ez867 => ?_)
            have lz867 := Int32.le_toInt z867
            have uz867 := Int32.toInt_lt z867
            have rz867 := EcV.kd hec_p0 ez867
            refine lv_iconst (v := 2) S.x S.b d_Mpg_checkPlace_56 (by decide) ?_
            refine lv_icmp_ne (tgt := 91) S.x S.b d_Mpg_checkPlace_57 (by decide) (fun c868 => ?_) (fun c868 => ?_)
            · have nc868 : ¬ z867.toInt = (2 : Int) := mt (i_eq (x := z867) (y := 2)).mpr c868
              refine lv_iload_n S.x S.b d_Mpg_checkPlace_91 rfl (lv_at hl 0 rfl) ?_
              refine lv_if_ne (tgt := 106) S.x S.b d_Mpg_checkPlace_92 (by decide) (fun c870 => ?_) (fun c870 => ?_)
              · exact absurd c870 (by decide)
              ·
                refine lv_aload_n S.x S.b d_Mpg_checkPlace_95 rfl (lv_at hl 1 rfl) ?_
                refine lv_bipush (v := 6) S.x S.b d_Mpg_checkPlace_96 (by decide) ?_
                refine lv_aload_n S.x S.b d_Mpg_checkPlace_98 rfl (lv_at hl 1 rfl) ?_
                refine lv_iload_n S.x S.b d_Mpg_checkPlace_99 rfl (lv_at hl 2 rfl) ?_
                first | refine px_calli (pr := []) (px_runV (As := [.int p0]) (rest := [.int 6, .ref h]) S (c_mp_first l D cs h r g tf ta pf na ma wa cf680 ca ef ea xf xa p0  (show 0 ≤ p0.toInt from hrg.2.2) (show p0.toInt < (pf 13).toInt from (oz_7319c2f99d g1 hrg.2.1)) (show (pf 13).toInt ≤ 2100 from g2) htk (FsI.le (N' := (pf 13).toInt) hfs (by omega)) _) hT (pr := []) (pcs := [wdP cs h r g tf ta pf na ma wa cf680 ca ef ea xf xa]) hw px_X.tt (px_recv hT hw 0 0 rfl rfl rfl) m13_9 m13_6 m13_8 ms_12_15 m1_21 q_Mpg_first ⟨Nat.le_of_ble_eq_true rfl, Nat.le_of_ble_eq_true rfl⟩ hl.1 rfl (Nat.le_of_ble_eq_true rfl) d_Mpg_checkPlace_100 ⟨Nat.le_of_ble_eq_true rfl, Nat.le_of_ble_eq_true rfl⟩) hw hA (fun v872 p871 H locs hp871 hw => ?_) | (refine px_calli (pr := []) (px_runV (As := [.int p0]) (rest := [.int 6, .ref h]) S (c_mp_first l D cs h r g tf ta pf na ma wa cf680 ca ef ea xf xa p0  (show 0 ≤ p0.toInt from by first | exact hrg.2.2 | omega) (show p0.toInt < (pf 13).toInt from by first | exact oz_7319c2f99d g1 hrg.2.1 | omega) (show (pf 13).toInt ≤ 2100 from by first | exact g2 | omega) htk (FsI.le (N' := (pf 13).toInt) hfs (by omega)) _) hT (pr := []) (pcs := [wdP cs h r g tf ta pf na ma wa cf680 ca ef ea xf xa]) hw px_X.tt (px_recv hT hw 0 0 rfl rfl rfl) m13_9 m13_6 m13_8 ms_12_15 m1_21 q_Mpg_first ⟨Nat.le_of_ble_eq_true rfl, Nat.le_of_ble_eq_true rfl⟩ hl.1 rfl (Nat.le_of_ble_eq_true rfl) d_Mpg_checkPlace_100 ⟨Nat.le_of_ble_eq_true rfl, Nat.le_of_ble_eq_true rfl⟩) hw hA (fun v872 p871 H locs hp871 hw => ?_))
                obtain ⟨rfl, e873, e874, e875⟩ := hp871
                have e873 : 0 ≤ v872.toInt := e873
                have e874 : v872.toInt < (tf 6).toInt := e874
                have e875 : R_mp_first na p0 v872 := e875
                have lv872 := Int32.le_toInt v872
                have uv872 := Int32.toInt_lt v872
                first | refine px_callv (pr := []) (px_runV (As := [.int 6, .int v872]) (rest := []) S (c_mp_bad l D cs h r g tf ta pf na ma wa ca ef ea xf xa cf680 6 v872  (show 1 ≤ (6 : Int) from oz_2c1e0e66aa) (show 0 ≤ v872.toInt from e873) (show v872.toInt < (tf 6).toInt from e874) htk hwr _) hT (pr := []) (pcs := [wdP cs h r g tf ta pf na ma wa cf680 ca ef ea xf xa]) hw px_X.tt (px_recv hT hw 0 0 rfl rfl rfl) m12_173 m12_170 m12_172 ms_11_12 m1_21 q_Mpg_bad ⟨Nat.le_of_ble_eq_true rfl, Nat.le_of_ble_eq_true rfl⟩ hl.1 rfl (Nat.le_of_ble_eq_true rfl) d_Mpg_checkPlace_103 ⟨Nat.le_of_ble_eq_true rfl, Nat.le_of_ble_eq_true rfl⟩) hw hA (fun p878 H locs hp878 hw => ?_) | (refine px_callv (pr := []) (px_runV (As := [.int 6, .int v872]) (rest := []) S (c_mp_bad l D cs h r g tf ta pf na ma wa ca ef ea xf xa cf680 6 v872  (show 1 ≤ (6 : Int) from by first | exact oz_2c1e0e66aa | omega) (show 0 ≤ v872.toInt from by first | exact e873 | omega) (show v872.toInt < (tf 6).toInt from by first | exact e874 | omega) htk hwr _) hT (pr := []) (pcs := [wdP cs h r g tf ta pf na ma wa cf680 ca ef ea xf xa]) hw px_X.tt (px_recv hT hw 0 0 rfl rfl rfl) m12_173 m12_170 m12_172 ms_11_12 m1_21 q_Mpg_bad ⟨Nat.le_of_ble_eq_true rfl, Nat.le_of_ble_eq_true rfl⟩ hl.1 rfl (Nat.le_of_ble_eq_true rfl) d_Mpg_checkPlace_103 ⟨Nat.le_of_ble_eq_true rfl, Nat.le_of_ble_eq_true rfl⟩) hw hA (fun p878 H locs hp878 hw => ?_))
                obtain ⟨cf877, rfl, e880, e881, e882, e883, e884, e885, e886, e887, e888, e889, e890, e891, e892, e893, e894, e895, e896, e897, e898, e899⟩ := hp878
                have e880 : KpE cf680 cf877 := e880
                have hke := (hke).tr e880
                have hkz_e880 := e880.2
                have e881 : WrV cf877 (tf 6).toInt := e881
                have hwr := e881
                have hw0_e881 := hwr.1
                have e882 : 1 ≤ (cf877 30).toInt := e882
                have e883 : (cf877 33).toInt = (cf680 33).toInt := e883
                have e884 : (cf877 38).toInt = (cf680 38).toInt := e884
                have e885 : (cf877 48).toInt = (cf680 48).toInt := e885
                have e886 : (cf877 46).toInt = (cf680 46).toInt := e886
                have e887 : (cf877 47).toInt = (cf680 47).toInt := e887
                have e888 : (cf877 57).toInt = (cf680 57).toInt := e888
                have e889 : (cf877 37).toInt = (cf680 37).toInt := e889
                have e890 : (cf877 42).toInt = (cf680 42).toInt := e890
                have e891 : (cf877 43).toInt = (cf680 43).toInt := e891
                have e892 : (cf877 44).toInt = (cf680 44).toInt := e892
                have e893 : (cf877 45).toInt = (cf680 45).toInt := e893
                have e894 : (cf877 54).toInt = (cf680 54).toInt := e894
                have e895 : (cf877 55).toInt = (cf680 55).toInt := e895
                have e896 : (cf877 58).toInt = (cf680 58).toInt := e896
                have e897 : (cf877 59).toInt = (cf680 59).toInt := e897
                have e898 : (cf877 41).toInt = (cf680 41).toInt := e898
                have e899 : R_mp_bad (6 : Int32) v872 cf680 cf877 := e899
                first | exact px_vret S hr hlk hAe hw (Nat.le_of_ble_eq_true rfl) (Nat.le_of_ble_eq_true rfl) (⟨cf877, rfl, (show KpE cf cf877 from hke), (show WrV cf877 (tf 6).toInt from hwr), (show (cf877 33).toInt = (cf 33).toInt from (oz_1687f4cc65 e686 e883)), (show (cf877 38).toInt = (cf 38).toInt from (oz_1687f4cc65 e687 e884)), (show (cf877 48).toInt = (cf 48).toInt from (oz_1687f4cc65 e688 e885)), (show (cf877 46).toInt = (cf 46).toInt from (oz_1687f4cc65 e689 e886)), (show (cf877 47).toInt = (cf 47).toInt from (oz_1687f4cc65 e690 e887)), (show (cf877 57).toInt = (cf 57).toInt from (oz_1687f4cc65 e691 e888)), (show ZPl cf877 na ma p0 p1.toInt from (zr_no (by omega))), (show R_mp_checkPlace ta na ca p0 p1 cf cf877 from (Or.inl (Or.inr ⟨nc1, Or.inr ⟨nc352, v675, e678, cf680, e702, z703, ez703, Or.inr ⟨nc704, z755, ez755, Or.inr ⟨nc756, Or.inl ⟨nc865, z867, ez867, Or.inl ⟨nc868, v872, e875, cf877, e899, rfl⟩⟩⟩⟩⟩⟩)))⟩) d_Mpg_checkPlace_106 | (exact px_vret S hr hlk hAe hw (Nat.le_of_ble_eq_true rfl) (Nat.le_of_ble_eq_true rfl) (⟨cf877, rfl, (show KpE cf cf877 from hke), (show WrV cf877 (tf 6).toInt from hwr), (show (cf877 33).toInt = (cf 33).toInt from by first | exact oz_1687f4cc65 e686 e883 | omega), (show (cf877 38).toInt = (cf 38).toInt from by first | exact oz_1687f4cc65 e687 e884 | omega), (show (cf877 48).toInt = (cf 48).toInt from by first | exact oz_1687f4cc65 e688 e885 | omega), (show (cf877 46).toInt = (cf 46).toInt from by first | exact oz_1687f4cc65 e689 e886 | omega), (show (cf877 47).toInt = (cf 47).toInt from by first | exact oz_1687f4cc65 e690 e887 | omega), (show (cf877 57).toInt = (cf 57).toInt from by first | exact oz_1687f4cc65 e691 e888 | omega), (show ZPl cf877 na ma p0 p1.toInt from (zr_no (by omega))), (show R_mp_checkPlace ta na ca p0 p1 cf cf877 from (Or.inl (Or.inr ⟨nc1, Or.inr ⟨nc352, v675, e678, cf680, e702, z703, ez703, Or.inr ⟨nc704, z755, ez755, Or.inr ⟨nc756, Or.inl ⟨nc865, z867, ez867, Or.inl ⟨nc868, v872, e875, cf877, e899, rfl⟩⟩⟩⟩⟩⟩)))⟩) d_Mpg_checkPlace_106)
            · have nc868 : z867.toInt = (2 : Int) := (i_eq (x := z867) (y := 2)).mp c868
              refine lv_iload_n S.x S.b d_Mpg_checkPlace_60 rfl (lv_at hl 3 rfl) ?_
              refine lv_iconst (v := 1) S.x S.b d_Mpg_checkPlace_61 (by decide) ?_
              refine lv_icmp_ne (tgt := 91) S.x S.b d_Mpg_checkPlace_62 (by decide) (fun c900 => ?_) (fun c900 => ?_)
              · have nc900 : ¬ p1.toInt = (1 : Int) := mt (i_eq (x := p1) (y := 1)).mpr c900
                refine lv_iload_n S.x S.b d_Mpg_checkPlace_91 rfl (lv_at hl 0 rfl) ?_
                refine lv_if_ne (tgt := 106) S.x S.b d_Mpg_checkPlace_92 (by decide) (fun c902 => ?_) (fun c902 => ?_)
                · exact absurd c902 (by decide)
                ·
                  refine lv_aload_n S.x S.b d_Mpg_checkPlace_95 rfl (lv_at hl 1 rfl) ?_
                  refine lv_bipush (v := 6) S.x S.b d_Mpg_checkPlace_96 (by decide) ?_
                  refine lv_aload_n S.x S.b d_Mpg_checkPlace_98 rfl (lv_at hl 1 rfl) ?_
                  refine lv_iload_n S.x S.b d_Mpg_checkPlace_99 rfl (lv_at hl 2 rfl) ?_
                  first | refine px_calli (pr := []) (px_runV (As := [.int p0]) (rest := [.int 6, .ref h]) S (c_mp_first l D cs h r g tf ta pf na ma wa cf680 ca ef ea xf xa p0  (show 0 ≤ p0.toInt from hrg.2.2) (show p0.toInt < (pf 13).toInt from (oz_7319c2f99d g1 hrg.2.1)) (show (pf 13).toInt ≤ 2100 from g2) htk (FsI.le (N' := (pf 13).toInt) hfs (by omega)) _) hT (pr := []) (pcs := [wdP cs h r g tf ta pf na ma wa cf680 ca ef ea xf xa]) hw px_X.tt (px_recv hT hw 0 0 rfl rfl rfl) m13_9 m13_6 m13_8 ms_12_15 m1_21 q_Mpg_first ⟨Nat.le_of_ble_eq_true rfl, Nat.le_of_ble_eq_true rfl⟩ hl.1 rfl (Nat.le_of_ble_eq_true rfl) d_Mpg_checkPlace_100 ⟨Nat.le_of_ble_eq_true rfl, Nat.le_of_ble_eq_true rfl⟩) hw hA (fun v904 p903 H locs hp903 hw => ?_) | (refine px_calli (pr := []) (px_runV (As := [.int p0]) (rest := [.int 6, .ref h]) S (c_mp_first l D cs h r g tf ta pf na ma wa cf680 ca ef ea xf xa p0  (show 0 ≤ p0.toInt from by first | exact hrg.2.2 | omega) (show p0.toInt < (pf 13).toInt from by first | exact oz_7319c2f99d g1 hrg.2.1 | omega) (show (pf 13).toInt ≤ 2100 from by first | exact g2 | omega) htk (FsI.le (N' := (pf 13).toInt) hfs (by omega)) _) hT (pr := []) (pcs := [wdP cs h r g tf ta pf na ma wa cf680 ca ef ea xf xa]) hw px_X.tt (px_recv hT hw 0 0 rfl rfl rfl) m13_9 m13_6 m13_8 ms_12_15 m1_21 q_Mpg_first ⟨Nat.le_of_ble_eq_true rfl, Nat.le_of_ble_eq_true rfl⟩ hl.1 rfl (Nat.le_of_ble_eq_true rfl) d_Mpg_checkPlace_100 ⟨Nat.le_of_ble_eq_true rfl, Nat.le_of_ble_eq_true rfl⟩) hw hA (fun v904 p903 H locs hp903 hw => ?_))
                  obtain ⟨rfl, e905, e906, e907⟩ := hp903
                  have e905 : 0 ≤ v904.toInt := e905
                  have e906 : v904.toInt < (tf 6).toInt := e906
                  have e907 : R_mp_first na p0 v904 := e907
                  have lv904 := Int32.le_toInt v904
                  have uv904 := Int32.toInt_lt v904
                  first | refine px_callv (pr := []) (px_runV (As := [.int 6, .int v904]) (rest := []) S (c_mp_bad l D cs h r g tf ta pf na ma wa ca ef ea xf xa cf680 6 v904  (show 1 ≤ (6 : Int) from oz_2c1e0e66aa) (show 0 ≤ v904.toInt from e905) (show v904.toInt < (tf 6).toInt from e906) htk hwr _) hT (pr := []) (pcs := [wdP cs h r g tf ta pf na ma wa cf680 ca ef ea xf xa]) hw px_X.tt (px_recv hT hw 0 0 rfl rfl rfl) m12_173 m12_170 m12_172 ms_11_12 m1_21 q_Mpg_bad ⟨Nat.le_of_ble_eq_true rfl, Nat.le_of_ble_eq_true rfl⟩ hl.1 rfl (Nat.le_of_ble_eq_true rfl) d_Mpg_checkPlace_103 ⟨Nat.le_of_ble_eq_true rfl, Nat.le_of_ble_eq_true rfl⟩) hw hA (fun p910 H locs hp910 hw => ?_) | (refine px_callv (pr := []) (px_runV (As := [.int 6, .int v904]) (rest := []) S (c_mp_bad l D cs h r g tf ta pf na ma wa ca ef ea xf xa cf680 6 v904  (show 1 ≤ (6 : Int) from by first | exact oz_2c1e0e66aa | omega) (show 0 ≤ v904.toInt from by first | exact e905 | omega) (show v904.toInt < (tf 6).toInt from by first | exact e906 | omega) htk hwr _) hT (pr := []) (pcs := [wdP cs h r g tf ta pf na ma wa cf680 ca ef ea xf xa]) hw px_X.tt (px_recv hT hw 0 0 rfl rfl rfl) m12_173 m12_170 m12_172 ms_11_12 m1_21 q_Mpg_bad ⟨Nat.le_of_ble_eq_true rfl, Nat.le_of_ble_eq_true rfl⟩ hl.1 rfl (Nat.le_of_ble_eq_true rfl) d_Mpg_checkPlace_103 ⟨Nat.le_of_ble_eq_true rfl, Nat.le_of_ble_eq_true rfl⟩) hw hA (fun p910 H locs hp910 hw => ?_))
                  obtain ⟨cf909, rfl, e912, e913, e914, e915, e916, e917, e918, e919, e920, e921, e922, e923, e924, e925, e926, e927, e928, e929, e930, e931⟩ := hp910
                  have e912 : KpE cf680 cf909 := e912
                  have hke := (hke).tr e912
                  have hkz_e912 := e912.2
                  have e913 : WrV cf909 (tf 6).toInt := e913
                  have hwr := e913
                  have hw0_e913 := hwr.1
                  have e914 : 1 ≤ (cf909 30).toInt := e914
                  have e915 : (cf909 33).toInt = (cf680 33).toInt := e915
                  have e916 : (cf909 38).toInt = (cf680 38).toInt := e916
                  have e917 : (cf909 48).toInt = (cf680 48).toInt := e917
                  have e918 : (cf909 46).toInt = (cf680 46).toInt := e918
                  have e919 : (cf909 47).toInt = (cf680 47).toInt := e919
                  have e920 : (cf909 57).toInt = (cf680 57).toInt := e920
                  have e921 : (cf909 37).toInt = (cf680 37).toInt := e921
                  have e922 : (cf909 42).toInt = (cf680 42).toInt := e922
                  have e923 : (cf909 43).toInt = (cf680 43).toInt := e923
                  have e924 : (cf909 44).toInt = (cf680 44).toInt := e924
                  have e925 : (cf909 45).toInt = (cf680 45).toInt := e925
                  have e926 : (cf909 54).toInt = (cf680 54).toInt := e926
                  have e927 : (cf909 55).toInt = (cf680 55).toInt := e927
                  have e928 : (cf909 58).toInt = (cf680 58).toInt := e928
                  have e929 : (cf909 59).toInt = (cf680 59).toInt := e929
                  have e930 : (cf909 41).toInt = (cf680 41).toInt := e930
                  have e931 : R_mp_bad (6 : Int32) v904 cf680 cf909 := e931
                  first | exact px_vret S hr hlk hAe hw (Nat.le_of_ble_eq_true rfl) (Nat.le_of_ble_eq_true rfl) (⟨cf909, rfl, (show KpE cf cf909 from hke), (show WrV cf909 (tf 6).toInt from hwr), (show (cf909 33).toInt = (cf 33).toInt from (oz_1687f4cc65 e686 e915)), (show (cf909 38).toInt = (cf 38).toInt from (oz_1687f4cc65 e687 e916)), (show (cf909 48).toInt = (cf 48).toInt from (oz_1687f4cc65 e688 e917)), (show (cf909 46).toInt = (cf 46).toInt from (oz_1687f4cc65 e689 e918)), (show (cf909 47).toInt = (cf 47).toInt from (oz_1687f4cc65 e690 e919)), (show (cf909 57).toInt = (cf 57).toInt from (oz_1687f4cc65 e691 e920)), (show ZPl cf909 na ma p0 p1.toInt from (zr_no (by omega))), (show R_mp_checkPlace ta na ca p0 p1 cf cf909 from (Or.inl (Or.inr ⟨nc1, Or.inr ⟨nc352, v675, e678, cf680, e702, z703, ez703, Or.inr ⟨nc704, z755, ez755, Or.inr ⟨nc756, Or.inl ⟨nc865, z867, ez867, Or.inr ⟨nc868, Or.inl ⟨nc900, v904, e907, cf909, e931, rfl⟩⟩⟩⟩⟩⟩⟩)))⟩) d_Mpg_checkPlace_106 | (exact px_vret S hr hlk hAe hw (Nat.le_of_ble_eq_true rfl) (Nat.le_of_ble_eq_true rfl) (⟨cf909, rfl, (show KpE cf cf909 from hke), (show WrV cf909 (tf 6).toInt from hwr), (show (cf909 33).toInt = (cf 33).toInt from by first | exact oz_1687f4cc65 e686 e915 | omega), (show (cf909 38).toInt = (cf 38).toInt from by first | exact oz_1687f4cc65 e687 e916 | omega), (show (cf909 48).toInt = (cf 48).toInt from by first | exact oz_1687f4cc65 e688 e917 | omega), (show (cf909 46).toInt = (cf 46).toInt from by first | exact oz_1687f4cc65 e689 e918 | omega), (show (cf909 47).toInt = (cf 47).toInt from by first | exact oz_1687f4cc65 e690 e919 | omega), (show (cf909 57).toInt = (cf 57).toInt from by first | exact oz_1687f4cc65 e691 e920 | omega), (show ZPl cf909 na ma p0 p1.toInt from (zr_no (by omega))), (show R_mp_checkPlace ta na ca p0 p1 cf cf909 from (Or.inl (Or.inr ⟨nc1, Or.inr ⟨nc352, v675, e678, cf680, e702, z703, ez703, Or.inr ⟨nc704, z755, ez755, Or.inr ⟨nc756, Or.inl ⟨nc865, z867, ez867, Or.inr ⟨nc868, Or.inl ⟨nc900, v904, e907, cf909, e931, rfl⟩⟩⟩⟩⟩⟩⟩)))⟩) d_Mpg_checkPlace_106)
              · have nc900 : p1.toInt = (1 : Int) := (i_eq (x := p1) (y := 1)).mp c900
                refine lv_aload_n S.x S.b d_Mpg_checkPlace_65 rfl (lv_at hl 1 rfl) ?_
                refine gP_35 S hT hw 0 rfl m10_24 d_Mpg_checkPlace_66 ?_
                refine lv_aload_n S.x S.b d_Mpg_checkPlace_69 rfl (lv_at hl 1 rfl) ?_
                refine lv_aload_n S.x S.b d_Mpg_checkPlace_70 rfl (lv_at hl 1 rfl) ?_
                refine gP_15 S hT hw 0 rfl m9_239 d_Mpg_checkPlace_71 ?_
                refine lv_iload_n S.x S.b d_Mpg_checkPlace_74 rfl (lv_at hl 2 rfl) ?_
                refine px_iald S hT hw 0 11 (n := 2100) (f := (na 15)) rfl gp_15 (x := p0) (vp_in_iff.mpr (by first | exact oz_a7e05de1cd hrg.2.2 hrg.2.1 g1 g2 | (constructor <;> omega))) d_Mpg_checkPlace_75 ?_
                refine lv_topi (fun z932 ez932 => ?_)
                have lz932 := Int32.le_toInt z932
                have uz932 := Int32.toInt_lt z932
                have rz932 := EcV.tok hec_p0 ez932
                refine lv_iconst (v := 0) S.x S.b d_Mpg_checkPlace_76 (by decide) ?_
                first | refine px_calli (pr := []) (px_runV (As := [.int z932, .int 0]) (rest := [.ref (r 35)]) S (c_mp_find l D cs h r g tf ta pf na ma wa cf680 ca ef ea xf xa z932 0  (show 0 ≤ z932.toInt from rz932.1) (show z932.toInt < (tf 6).toInt from (oz_7fe81129bf rz932.2)) (show (tf 6).toInt ≤ 2049 from g3) (show 0 ≤ (0 : Int) from oz_5a341f00aa) (show 0 ≤ (cf680 33).toInt from (oz_e2fef14871 e686 g4 g5)) htk (KnT.eq hkt (by omega)) _) hT (pr := []) (pcs := [wdP cs h r g tf ta pf na ma wa cf680 ca ef ea xf xa]) hw px_X.tt (px_recv hT hw 0 0 rfl rfl rfl) m12_181 m12_178 m12_180 ms_11_14 m1_21 q_Mpg_find ⟨Nat.le_of_ble_eq_true rfl, Nat.le_of_ble_eq_true rfl⟩ hl.1 rfl (Nat.le_of_ble_eq_true rfl) d_Mpg_checkPlace_77 ⟨Nat.le_of_ble_eq_true rfl, Nat.le_of_ble_eq_true rfl⟩) hw hA (fun v934 p933 H locs hp933 hw => ?_) | (refine px_calli (pr := []) (px_runV (As := [.int z932, .int 0]) (rest := [.ref (r 35)]) S (c_mp_find l D cs h r g tf ta pf na ma wa cf680 ca ef ea xf xa z932 0  (show 0 ≤ z932.toInt from by first | exact rz932.1 | omega) (show z932.toInt < (tf 6).toInt from by first | exact oz_7fe81129bf rz932.2 | omega) (show (tf 6).toInt ≤ 2049 from by first | exact g3 | omega) (show 0 ≤ (0 : Int) from by first | exact oz_5a341f00aa | omega) (show 0 ≤ (cf680 33).toInt from by first | exact oz_e2fef14871 e686 g4 g5 | omega) htk (KnT.eq hkt (by omega)) _) hT (pr := []) (pcs := [wdP cs h r g tf ta pf na ma wa cf680 ca ef ea xf xa]) hw px_X.tt (px_recv hT hw 0 0 rfl rfl rfl) m12_181 m12_178 m12_180 ms_11_14 m1_21 q_Mpg_find ⟨Nat.le_of_ble_eq_true rfl, Nat.le_of_ble_eq_true rfl⟩ hl.1 rfl (Nat.le_of_ble_eq_true rfl) d_Mpg_checkPlace_77 ⟨Nat.le_of_ble_eq_true rfl, Nat.le_of_ble_eq_true rfl⟩) hw hA (fun v934 p933 H locs hp933 hw => ?_))
                obtain ⟨rfl, e935, e936, e937, e938, e939⟩ := hp933
                have e935 : -1 ≤ v934.toInt := e935
                have e936 : v934.toInt < (cf680 33).toInt := e936
                have e937 : 0 ≤ v934.toInt → (0 : Int) ≤ v934.toInt := e937
                have e938 : FndV ta ca (cf680 33).toInt z932 (0 : Int) v934.toInt := e938
                have hfd := e938
                have e939 : R_mp_find ta cf680 ca z932 (0 : Int32) v934 := e939
                have lv934 := Int32.le_toInt v934
                have uv934 := Int32.toInt_lt v934
                have hps := nm_pos (hnj (by omega)) (by omega) hfd ez932 (by omega)
                refine px_iald S hT hw 0 24 (n := 1100) (f := (ca 35)) rfl gp_35 (x := v934) (vp_in_iff.mpr (by constructor <;> omega)) d_Mpg_checkPlace_80 ?_
                refine lv_topi (fun z940 ez940 => ?_)
                have lz940 := Int32.le_toInt z940
                have uz940 := Int32.toInt_lt z940
                refine lv_iconst (v := 1) S.x S.b d_Mpg_checkPlace_81 (by decide) ?_
                refine lv_icmp_ne (tgt := 89) S.x S.b d_Mpg_checkPlace_82 (by decide) (fun c941 => ?_) (fun c941 => ?_)
                · have nc941 : ¬ z940.toInt = (1 : Int) := mt (i_eq (x := z940) (y := 1)).mpr c941
                  refine lv_iconst (v := 0) S.x S.b d_Mpg_checkPlace_89 (by decide) ?_
                  refine lv_istore_n (lv' := [(3, .int 0), (0, .ref h), (1, .int p0), (2, .int p1)]) S.x S.b d_Mpg_checkPlace_90 rfl hl (by decide) rfl (fun ls hl => ?_)
                  refine lv_iload_n S.x S.b d_Mpg_checkPlace_91 rfl (lv_at hl 0 rfl) ?_
                  refine lv_if_ne (tgt := 106) S.x S.b d_Mpg_checkPlace_92 (by decide) (fun c943 => ?_) (fun c943 => ?_)
                  · exact absurd c943 (by decide)
                  ·
                    refine lv_aload_n S.x S.b d_Mpg_checkPlace_95 rfl (lv_at hl 1 rfl) ?_
                    refine lv_bipush (v := 6) S.x S.b d_Mpg_checkPlace_96 (by decide) ?_
                    refine lv_aload_n S.x S.b d_Mpg_checkPlace_98 rfl (lv_at hl 1 rfl) ?_
                    refine lv_iload_n S.x S.b d_Mpg_checkPlace_99 rfl (lv_at hl 2 rfl) ?_
                    first | refine px_calli (pr := []) (px_runV (As := [.int p0]) (rest := [.int 6, .ref h]) S (c_mp_first l D cs h r g tf ta pf na ma wa cf680 ca ef ea xf xa p0  (show 0 ≤ p0.toInt from hrg.2.2) (show p0.toInt < (pf 13).toInt from (oz_7319c2f99d g1 hrg.2.1)) (show (pf 13).toInt ≤ 2100 from g2) htk (FsI.le (N' := (pf 13).toInt) hfs (by omega)) _) hT (pr := []) (pcs := [wdP cs h r g tf ta pf na ma wa cf680 ca ef ea xf xa]) hw px_X.tt (px_recv hT hw 0 0 rfl rfl rfl) m13_9 m13_6 m13_8 ms_12_15 m1_21 q_Mpg_first ⟨Nat.le_of_ble_eq_true rfl, Nat.le_of_ble_eq_true rfl⟩ hl.1 rfl (Nat.le_of_ble_eq_true rfl) d_Mpg_checkPlace_100 ⟨Nat.le_of_ble_eq_true rfl, Nat.le_of_ble_eq_true rfl⟩) hw hA (fun v945 p944 H locs hp944 hw => ?_) | (refine px_calli (pr := []) (px_runV (As := [.int p0]) (rest := [.int 6, .ref h]) S (c_mp_first l D cs h r g tf ta pf na ma wa cf680 ca ef ea xf xa p0  (show 0 ≤ p0.toInt from by first | exact hrg.2.2 | omega) (show p0.toInt < (pf 13).toInt from by first | exact oz_7319c2f99d g1 hrg.2.1 | omega) (show (pf 13).toInt ≤ 2100 from by first | exact g2 | omega) htk (FsI.le (N' := (pf 13).toInt) hfs (by omega)) _) hT (pr := []) (pcs := [wdP cs h r g tf ta pf na ma wa cf680 ca ef ea xf xa]) hw px_X.tt (px_recv hT hw 0 0 rfl rfl rfl) m13_9 m13_6 m13_8 ms_12_15 m1_21 q_Mpg_first ⟨Nat.le_of_ble_eq_true rfl, Nat.le_of_ble_eq_true rfl⟩ hl.1 rfl (Nat.le_of_ble_eq_true rfl) d_Mpg_checkPlace_100 ⟨Nat.le_of_ble_eq_true rfl, Nat.le_of_ble_eq_true rfl⟩) hw hA (fun v945 p944 H locs hp944 hw => ?_))
                    obtain ⟨rfl, e946, e947, e948⟩ := hp944
                    have e946 : 0 ≤ v945.toInt := e946
                    have e947 : v945.toInt < (tf 6).toInt := e947
                    have e948 : R_mp_first na p0 v945 := e948
                    have lv945 := Int32.le_toInt v945
                    have uv945 := Int32.toInt_lt v945
                    first | refine px_callv (pr := []) (px_runV (As := [.int 6, .int v945]) (rest := []) S (c_mp_bad l D cs h r g tf ta pf na ma wa ca ef ea xf xa cf680 6 v945  (show 1 ≤ (6 : Int) from oz_2c1e0e66aa) (show 0 ≤ v945.toInt from e946) (show v945.toInt < (tf 6).toInt from e947) htk hwr _) hT (pr := []) (pcs := [wdP cs h r g tf ta pf na ma wa cf680 ca ef ea xf xa]) hw px_X.tt (px_recv hT hw 0 0 rfl rfl rfl) m12_173 m12_170 m12_172 ms_11_12 m1_21 q_Mpg_bad ⟨Nat.le_of_ble_eq_true rfl, Nat.le_of_ble_eq_true rfl⟩ hl.1 rfl (Nat.le_of_ble_eq_true rfl) d_Mpg_checkPlace_103 ⟨Nat.le_of_ble_eq_true rfl, Nat.le_of_ble_eq_true rfl⟩) hw hA (fun p951 H locs hp951 hw => ?_) | (refine px_callv (pr := []) (px_runV (As := [.int 6, .int v945]) (rest := []) S (c_mp_bad l D cs h r g tf ta pf na ma wa ca ef ea xf xa cf680 6 v945  (show 1 ≤ (6 : Int) from by first | exact oz_2c1e0e66aa | omega) (show 0 ≤ v945.toInt from by first | exact e946 | omega) (show v945.toInt < (tf 6).toInt from by first | exact e947 | omega) htk hwr _) hT (pr := []) (pcs := [wdP cs h r g tf ta pf na ma wa cf680 ca ef ea xf xa]) hw px_X.tt (px_recv hT hw 0 0 rfl rfl rfl) m12_173 m12_170 m12_172 ms_11_12 m1_21 q_Mpg_bad ⟨Nat.le_of_ble_eq_true rfl, Nat.le_of_ble_eq_true rfl⟩ hl.1 rfl (Nat.le_of_ble_eq_true rfl) d_Mpg_checkPlace_103 ⟨Nat.le_of_ble_eq_true rfl, Nat.le_of_ble_eq_true rfl⟩) hw hA (fun p951 H locs hp951 hw => ?_))
                    obtain ⟨cf950, rfl, e953, e954, e955, e956, e957, e958, e959, e960, e961, e962, e963, e964, e965, e966, e967, e968, e969, e970, e971, e972⟩ := hp951
                    have e953 : KpE cf680 cf950 := e953
                    have hke := (hke).tr e953
                    have hkz_e953 := e953.2
                    have e954 : WrV cf950 (tf 6).toInt := e954
                    have hwr := e954
                    have hw0_e954 := hwr.1
                    have e955 : 1 ≤ (cf950 30).toInt := e955
                    have e956 : (cf950 33).toInt = (cf680 33).toInt := e956
                    have e957 : (cf950 38).toInt = (cf680 38).toInt := e957
                    have e958 : (cf950 48).toInt = (cf680 48).toInt := e958
                    have e959 : (cf950 46).toInt = (cf680 46).toInt := e959
                    have e960 : (cf950 47).toInt = (cf680 47).toInt := e960
                    have e961 : (cf950 57).toInt = (cf680 57).toInt := e961
                    have e962 : (cf950 37).toInt = (cf680 37).toInt := e962
                    have e963 : (cf950 42).toInt = (cf680 42).toInt := e963
                    have e964 : (cf950 43).toInt = (cf680 43).toInt := e964
                    have e965 : (cf950 44).toInt = (cf680 44).toInt := e965
                    have e966 : (cf950 45).toInt = (cf680 45).toInt := e966
                    have e967 : (cf950 54).toInt = (cf680 54).toInt := e967
                    have e968 : (cf950 55).toInt = (cf680 55).toInt := e968
                    have e969 : (cf950 58).toInt = (cf680 58).toInt := e969
                    have e970 : (cf950 59).toInt = (cf680 59).toInt := e970
                    have e971 : (cf950 41).toInt = (cf680 41).toInt := e971
                    have e972 : R_mp_bad (6 : Int32) v945 cf680 cf950 := e972
                    first | exact px_vret S hr hlk hAe hw (Nat.le_of_ble_eq_true rfl) (Nat.le_of_ble_eq_true rfl) (⟨cf950, rfl, (show KpE cf cf950 from hke), (show WrV cf950 (tf 6).toInt from hwr), (show (cf950 33).toInt = (cf 33).toInt from (oz_1687f4cc65 e686 e956)), (show (cf950 38).toInt = (cf 38).toInt from (oz_1687f4cc65 e687 e957)), (show (cf950 48).toInt = (cf 48).toInt from (oz_1687f4cc65 e688 e958)), (show (cf950 46).toInt = (cf 46).toInt from (oz_1687f4cc65 e689 e959)), (show (cf950 47).toInt = (cf 47).toInt from (oz_1687f4cc65 e690 e960)), (show (cf950 57).toInt = (cf 57).toInt from (oz_1687f4cc65 e691 e961)), (show ZPl cf950 na ma p0 p1.toInt from (zr_no (by omega))), (show R_mp_checkPlace ta na ca p0 p1 cf cf950 from (Or.inl (Or.inr ⟨nc1, Or.inr ⟨nc352, v675, e678, cf680, e702, z703, ez703, Or.inr ⟨nc704, z755, ez755, Or.inr ⟨nc756, Or.inl ⟨nc865, z867, ez867, Or.inr ⟨nc868, Or.inr ⟨nc900, z932, ez932, v934, e939, z940, ez940, Or.inl ⟨nc941, v945, e948, cf950, e972, rfl⟩⟩⟩⟩⟩⟩⟩⟩)))⟩) d_Mpg_checkPlace_106 | (exact px_vret S hr hlk hAe hw (Nat.le_of_ble_eq_true rfl) (Nat.le_of_ble_eq_true rfl) (⟨cf950, rfl, (show KpE cf cf950 from hke), (show WrV cf950 (tf 6).toInt from hwr), (show (cf950 33).toInt = (cf 33).toInt from by first | exact oz_1687f4cc65 e686 e956 | omega), (show (cf950 38).toInt = (cf 38).toInt from by first | exact oz_1687f4cc65 e687 e957 | omega), (show (cf950 48).toInt = (cf 48).toInt from by first | exact oz_1687f4cc65 e688 e958 | omega), (show (cf950 46).toInt = (cf 46).toInt from by first | exact oz_1687f4cc65 e689 e959 | omega), (show (cf950 47).toInt = (cf 47).toInt from by first | exact oz_1687f4cc65 e690 e960 | omega), (show (cf950 57).toInt = (cf 57).toInt from by first | exact oz_1687f4cc65 e691 e961 | omega), (show ZPl cf950 na ma p0 p1.toInt from (zr_no (by omega))), (show R_mp_checkPlace ta na ca p0 p1 cf cf950 from (Or.inl (Or.inr ⟨nc1, Or.inr ⟨nc352, v675, e678, cf680, e702, z703, ez703, Or.inr ⟨nc704, z755, ez755, Or.inr ⟨nc756, Or.inl ⟨nc865, z867, ez867, Or.inr ⟨nc868, Or.inr ⟨nc900, z932, ez932, v934, e939, z940, ez940, Or.inl ⟨nc941, v945, e948, cf950, e972, rfl⟩⟩⟩⟩⟩⟩⟩⟩)))⟩) d_Mpg_checkPlace_106)
                · have nc941 : z940.toInt = (1 : Int) := (i_eq (x := z940) (y := 1)).mp c941
                  refine lv_iconst (v := 1) S.x S.b d_Mpg_checkPlace_85 (by decide) ?_
                  refine lv_goto (tgt := 90) S.x S.b d_Mpg_checkPlace_86 (by decide) ?_
                  refine lv_istore_n (lv' := [(3, .int 1), (0, .ref h), (1, .int p0), (2, .int p1)]) S.x S.b d_Mpg_checkPlace_90 rfl hl (by decide) rfl (fun ls hl => ?_)
                  refine lv_iload_n S.x S.b d_Mpg_checkPlace_91 rfl (lv_at hl 0 rfl) ?_
                  refine lv_if_ne (tgt := 106) S.x S.b d_Mpg_checkPlace_92 (by decide) (fun c973 => ?_) (fun c973 => ?_)
                  ·
                    first | exact px_vret S hr hlk hAe hw (Nat.le_of_ble_eq_true rfl) (Nat.le_of_ble_eq_true rfl) (⟨cf680, rfl, (show KpE cf cf680 from hke), (show WrV cf680 (tf 6).toInt from hwr), (show (cf680 33).toInt = (cf 33).toInt from e686), (show (cf680 38).toInt = (cf 38).toInt from e687), (show (cf680 48).toInt = (cf 48).toInt from e688), (show (cf680 46).toInt = (cf 46).toInt from e689), (show (cf680 47).toInt = (cf 47).toInt from e690), (show (cf680 57).toInt = (cf 57).toInt from e691), (show ZPl cf680 na ma p0 p1.toInt from (zr_no (by omega))), (show R_mp_checkPlace ta na ca p0 p1 cf cf680 from (Or.inl (Or.inr ⟨nc1, Or.inr ⟨nc352, v675, e678, cf680, e702, z703, ez703, Or.inr ⟨nc704, z755, ez755, Or.inr ⟨nc756, Or.inl ⟨nc865, z867, ez867, Or.inr ⟨nc868, Or.inr ⟨nc900, z932, ez932, v934, e939, z940, ez940, Or.inr ⟨nc941, rfl⟩⟩⟩⟩⟩⟩⟩⟩)))⟩) d_Mpg_checkPlace_106 | (exact px_vret S hr hlk hAe hw (Nat.le_of_ble_eq_true rfl) (Nat.le_of_ble_eq_true rfl) (⟨cf680, rfl, (show KpE cf cf680 from hke), (show WrV cf680 (tf 6).toInt from hwr), (show (cf680 33).toInt = (cf 33).toInt from by first | exact e686 | omega), (show (cf680 38).toInt = (cf 38).toInt from by first | exact e687 | omega), (show (cf680 48).toInt = (cf 48).toInt from by first | exact e688 | omega), (show (cf680 46).toInt = (cf 46).toInt from by first | exact e689 | omega), (show (cf680 47).toInt = (cf 47).toInt from by first | exact e690 | omega), (show (cf680 57).toInt = (cf 57).toInt from by first | exact e691 | omega), (show ZPl cf680 na ma p0 p1.toInt from (zr_no (by omega))), (show R_mp_checkPlace ta na ca p0 p1 cf cf680 from (Or.inl (Or.inr ⟨nc1, Or.inr ⟨nc352, v675, e678, cf680, e702, z703, ez703, Or.inr ⟨nc704, z755, ez755, Or.inr ⟨nc756, Or.inl ⟨nc865, z867, ez867, Or.inr ⟨nc868, Or.inr ⟨nc900, z932, ez932, v934, e939, z940, ez940, Or.inr ⟨nc941, rfl⟩⟩⟩⟩⟩⟩⟩⟩)))⟩) d_Mpg_checkPlace_106)
                  · exact absurd c973 (by decide)
          · have nc865 : p1.toInt = (0 : Int) := (i_eq (x := p1) (y := 0)).mp c865
            refine lv_iconst (v := 1) S.x S.b d_Mpg_checkPlace_44 (by decide) ?_
            refine lv_goto (tgt := 49) S.x S.b d_Mpg_checkPlace_45 (by decide) ?_
            refine lv_istore_n (lv' := [(3, .int 1), (0, .ref h), (1, .int p0), (2, .int p1)]) S.x S.b d_Mpg_checkPlace_49 rfl hl (by decide) rfl (fun ls hl => ?_)
            refine lv_aload_n S.x S.b d_Mpg_checkPlace_50 rfl (lv_at hl 1 rfl) ?_
            refine gP_14 S hT hw 0 rfl m9_238 d_Mpg_checkPlace_51 ?_
            refine lv_iload_n S.x S.b d_Mpg_checkPlace_54 rfl (lv_at hl 2 rfl) ?_
            refine px_bald S hT hw 0 10 (n := 2100) (f := (na 14)) rfl gp_14 (x := p0) (vp_in_iff.mpr (by first | exact oz_a7e05de1cd hrg.2.2 hrg.2.1 g1 g2 | (constructor <;> omega))) d_Mpg_checkPlace_55 ?_
            refine lv_topi (fun z974 ez974 => ?_)
            have lz974 := Int32.le_toInt z974
            have uz974 := Int32.toInt_lt z974
            have rz974 := EcV.kd hec_p0 ez974
            refine lv_iconst (v := 2) S.x S.b d_Mpg_checkPlace_56 (by decide) ?_
            refine lv_icmp_ne (tgt := 91) S.x S.b d_Mpg_checkPlace_57 (by decide) (fun c975 => ?_) (fun c975 => ?_)
            · have nc975 : ¬ z974.toInt = (2 : Int) := mt (i_eq (x := z974) (y := 2)).mpr c975
              refine lv_iload_n S.x S.b d_Mpg_checkPlace_91 rfl (lv_at hl 0 rfl) ?_
              refine lv_if_ne (tgt := 106) S.x S.b d_Mpg_checkPlace_92 (by decide) (fun c977 => ?_) (fun c977 => ?_)
              ·
                first | exact px_vret S hr hlk hAe hw (Nat.le_of_ble_eq_true rfl) (Nat.le_of_ble_eq_true rfl) (⟨cf680, rfl, (show KpE cf cf680 from hke), (show WrV cf680 (tf 6).toInt from hwr), (show (cf680 33).toInt = (cf 33).toInt from e686), (show (cf680 38).toInt = (cf 38).toInt from e687), (show (cf680 48).toInt = (cf 48).toInt from e688), (show (cf680 46).toInt = (cf 46).toInt from e689), (show (cf680 47).toInt = (cf 47).toInt from e690), (show (cf680 57).toInt = (cf 57).toInt from e691), (show ZPl cf680 na ma p0 p1.toInt from (zr_no (by omega))), (show R_mp_checkPlace ta na ca p0 p1 cf cf680 from (Or.inl (Or.inr ⟨nc1, Or.inr ⟨nc352, v675, e678, cf680, e702, z703, ez703, Or.inr ⟨nc704, z755, ez755, Or.inr ⟨nc756, Or.inr ⟨nc865, z974, ez974, Or.inl ⟨nc975, rfl⟩⟩⟩⟩⟩⟩)))⟩) d_Mpg_checkPlace_106 | (exact px_vret S hr hlk hAe hw (Nat.le_of_ble_eq_true rfl) (Nat.le_of_ble_eq_true rfl) (⟨cf680, rfl, (show KpE cf cf680 from hke), (show WrV cf680 (tf 6).toInt from hwr), (show (cf680 33).toInt = (cf 33).toInt from by first | exact e686 | omega), (show (cf680 38).toInt = (cf 38).toInt from by first | exact e687 | omega), (show (cf680 48).toInt = (cf 48).toInt from by first | exact e688 | omega), (show (cf680 46).toInt = (cf 46).toInt from by first | exact e689 | omega), (show (cf680 47).toInt = (cf 47).toInt from by first | exact e690 | omega), (show (cf680 57).toInt = (cf 57).toInt from by first | exact e691 | omega), (show ZPl cf680 na ma p0 p1.toInt from (zr_no (by omega))), (show R_mp_checkPlace ta na ca p0 p1 cf cf680 from (Or.inl (Or.inr ⟨nc1, Or.inr ⟨nc352, v675, e678, cf680, e702, z703, ez703, Or.inr ⟨nc704, z755, ez755, Or.inr ⟨nc756, Or.inr ⟨nc865, z974, ez974, Or.inl ⟨nc975, rfl⟩⟩⟩⟩⟩⟩)))⟩) d_Mpg_checkPlace_106)
              · exact absurd c977 (by decide)
            · have nc975 : z974.toInt = (2 : Int) := (i_eq (x := z974) (y := 2)).mp c975
              refine lv_iload_n S.x S.b d_Mpg_checkPlace_60 rfl (lv_at hl 3 rfl) ?_
              refine lv_iconst (v := 1) S.x S.b d_Mpg_checkPlace_61 (by decide) ?_
              refine lv_icmp_ne (tgt := 91) S.x S.b d_Mpg_checkPlace_62 (by decide) (fun c978 => ?_) (fun c978 => ?_)
              · have nc978 : ¬ p1.toInt = (1 : Int) := mt (i_eq (x := p1) (y := 1)).mpr c978
                refine lv_iload_n S.x S.b d_Mpg_checkPlace_91 rfl (lv_at hl 0 rfl) ?_
                refine lv_if_ne (tgt := 106) S.x S.b d_Mpg_checkPlace_92 (by decide) (fun c980 => ?_) (fun c980 => ?_)
                ·
                  first | exact px_vret S hr hlk hAe hw (Nat.le_of_ble_eq_true rfl) (Nat.le_of_ble_eq_true rfl) (⟨cf680, rfl, (show KpE cf cf680 from hke), (show WrV cf680 (tf 6).toInt from hwr), (show (cf680 33).toInt = (cf 33).toInt from e686), (show (cf680 38).toInt = (cf 38).toInt from e687), (show (cf680 48).toInt = (cf 48).toInt from e688), (show (cf680 46).toInt = (cf 46).toInt from e689), (show (cf680 47).toInt = (cf 47).toInt from e690), (show (cf680 57).toInt = (cf 57).toInt from e691), (show ZPl cf680 na ma p0 p1.toInt from (zr_no (by omega))), (show R_mp_checkPlace ta na ca p0 p1 cf cf680 from (Or.inl (Or.inr ⟨nc1, Or.inr ⟨nc352, v675, e678, cf680, e702, z703, ez703, Or.inr ⟨nc704, z755, ez755, Or.inr ⟨nc756, Or.inr ⟨nc865, z974, ez974, Or.inr ⟨nc975, Or.inl ⟨nc978, rfl⟩⟩⟩⟩⟩⟩⟩)))⟩) d_Mpg_checkPlace_106 | (exact px_vret S hr hlk hAe hw (Nat.le_of_ble_eq_true rfl) (Nat.le_of_ble_eq_true rfl) (⟨cf680, rfl, (show KpE cf cf680 from hke), (show WrV cf680 (tf 6).toInt from hwr), (show (cf680 33).toInt = (cf 33).toInt from by first | exact e686 | omega), (show (cf680 38).toInt = (cf 38).toInt from by first | exact e687 | omega), (show (cf680 48).toInt = (cf 48).toInt from by first | exact e688 | omega), (show (cf680 46).toInt = (cf 46).toInt from by first | exact e689 | omega), (show (cf680 47).toInt = (cf 47).toInt from by first | exact e690 | omega), (show (cf680 57).toInt = (cf 57).toInt from by first | exact e691 | omega), (show ZPl cf680 na ma p0 p1.toInt from (zr_no (by omega))), (show R_mp_checkPlace ta na ca p0 p1 cf cf680 from (Or.inl (Or.inr ⟨nc1, Or.inr ⟨nc352, v675, e678, cf680, e702, z703, ez703, Or.inr ⟨nc704, z755, ez755, Or.inr ⟨nc756, Or.inr ⟨nc865, z974, ez974, Or.inr ⟨nc975, Or.inl ⟨nc978, rfl⟩⟩⟩⟩⟩⟩⟩)))⟩) d_Mpg_checkPlace_106)
                · exact absurd c980 (by decide)
              · have nc978 : p1.toInt = (1 : Int) := (i_eq (x := p1) (y := 1)).mp c978
                refine lv_aload_n S.x S.b d_Mpg_checkPlace_65 rfl (lv_at hl 1 rfl) ?_
                refine gP_35 S hT hw 0 rfl m10_24 d_Mpg_checkPlace_66 ?_
                refine lv_aload_n S.x S.b d_Mpg_checkPlace_69 rfl (lv_at hl 1 rfl) ?_
                refine lv_aload_n S.x S.b d_Mpg_checkPlace_70 rfl (lv_at hl 1 rfl) ?_
                refine gP_15 S hT hw 0 rfl m9_239 d_Mpg_checkPlace_71 ?_
                refine lv_iload_n S.x S.b d_Mpg_checkPlace_74 rfl (lv_at hl 2 rfl) ?_
                refine px_iald S hT hw 0 11 (n := 2100) (f := (na 15)) rfl gp_15 (x := p0) (vp_in_iff.mpr (by first | exact oz_a7e05de1cd hrg.2.2 hrg.2.1 g1 g2 | (constructor <;> omega))) d_Mpg_checkPlace_75 ?_
                refine lv_topi (fun z981 ez981 => ?_)
                have lz981 := Int32.le_toInt z981
                have uz981 := Int32.toInt_lt z981
                have rz981 := EcV.tok hec_p0 ez981
                refine lv_iconst (v := 0) S.x S.b d_Mpg_checkPlace_76 (by decide) ?_
                first | refine px_calli (pr := []) (px_runV (As := [.int z981, .int 0]) (rest := [.ref (r 35)]) S (c_mp_find l D cs h r g tf ta pf na ma wa cf680 ca ef ea xf xa z981 0  (show 0 ≤ z981.toInt from rz981.1) (show z981.toInt < (tf 6).toInt from (oz_7fe81129bf rz981.2)) (show (tf 6).toInt ≤ 2049 from g3) (show 0 ≤ (0 : Int) from oz_5a341f00aa) (show 0 ≤ (cf680 33).toInt from (oz_e2fef14871 e686 g4 g5)) htk (KnT.eq hkt (by omega)) _) hT (pr := []) (pcs := [wdP cs h r g tf ta pf na ma wa cf680 ca ef ea xf xa]) hw px_X.tt (px_recv hT hw 0 0 rfl rfl rfl) m12_181 m12_178 m12_180 ms_11_14 m1_21 q_Mpg_find ⟨Nat.le_of_ble_eq_true rfl, Nat.le_of_ble_eq_true rfl⟩ hl.1 rfl (Nat.le_of_ble_eq_true rfl) d_Mpg_checkPlace_77 ⟨Nat.le_of_ble_eq_true rfl, Nat.le_of_ble_eq_true rfl⟩) hw hA (fun v983 p982 H locs hp982 hw => ?_) | (refine px_calli (pr := []) (px_runV (As := [.int z981, .int 0]) (rest := [.ref (r 35)]) S (c_mp_find l D cs h r g tf ta pf na ma wa cf680 ca ef ea xf xa z981 0  (show 0 ≤ z981.toInt from by first | exact rz981.1 | omega) (show z981.toInt < (tf 6).toInt from by first | exact oz_7fe81129bf rz981.2 | omega) (show (tf 6).toInt ≤ 2049 from by first | exact g3 | omega) (show 0 ≤ (0 : Int) from by first | exact oz_5a341f00aa | omega) (show 0 ≤ (cf680 33).toInt from by first | exact oz_e2fef14871 e686 g4 g5 | omega) htk (KnT.eq hkt (by omega)) _) hT (pr := []) (pcs := [wdP cs h r g tf ta pf na ma wa cf680 ca ef ea xf xa]) hw px_X.tt (px_recv hT hw 0 0 rfl rfl rfl) m12_181 m12_178 m12_180 ms_11_14 m1_21 q_Mpg_find ⟨Nat.le_of_ble_eq_true rfl, Nat.le_of_ble_eq_true rfl⟩ hl.1 rfl (Nat.le_of_ble_eq_true rfl) d_Mpg_checkPlace_77 ⟨Nat.le_of_ble_eq_true rfl, Nat.le_of_ble_eq_true rfl⟩) hw hA (fun v983 p982 H locs hp982 hw => ?_))
                obtain ⟨rfl, e984, e985, e986, e987, e988⟩ := hp982
                have e984 : -1 ≤ v983.toInt := e984
                have e985 : v983.toInt < (cf680 33).toInt := e985
                have e986 : 0 ≤ v983.toInt → (0 : Int) ≤ v983.toInt := e986
                have e987 : FndV ta ca (cf680 33).toInt z981 (0 : Int) v983.toInt := e987
                have hfd := e987
                have e988 : R_mp_find ta cf680 ca z981 (0 : Int32) v983 := e988
                have lv983 := Int32.le_toInt v983
                have uv983 := Int32.toInt_lt v983
                have hps := nm_pos (hnj (by omega)) (by omega) hfd ez981 (by omega)
                refine px_iald S hT hw 0 24 (n := 1100) (f := (ca 35)) rfl gp_35 (x := v983) (vp_in_iff.mpr (by constructor <;> omega)) d_Mpg_checkPlace_80 ?_
                refine lv_topi (fun z989 ez989 => ?_)
                have lz989 := Int32.le_toInt z989
                have uz989 := Int32.toInt_lt z989
                refine lv_iconst (v := 1) S.x S.b d_Mpg_checkPlace_81 (by decide) ?_
                refine lv_icmp_ne (tgt := 89) S.x S.b d_Mpg_checkPlace_82 (by decide) (fun c990 => ?_) (fun c990 => ?_)
                · have nc990 : ¬ z989.toInt = (1 : Int) := mt (i_eq (x := z989) (y := 1)).mpr c990
                  refine lv_iconst (v := 0) S.x S.b d_Mpg_checkPlace_89 (by decide) ?_
                  refine lv_istore_n (lv' := [(3, .int 0), (0, .ref h), (1, .int p0), (2, .int p1)]) S.x S.b d_Mpg_checkPlace_90 rfl hl (by decide) rfl (fun ls hl => ?_)
                  refine lv_iload_n S.x S.b d_Mpg_checkPlace_91 rfl (lv_at hl 0 rfl) ?_
                  refine lv_if_ne (tgt := 106) S.x S.b d_Mpg_checkPlace_92 (by decide) (fun c992 => ?_) (fun c992 => ?_)
                  · exact absurd c992 (by decide)
                  ·
                    refine lv_aload_n S.x S.b d_Mpg_checkPlace_95 rfl (lv_at hl 1 rfl) ?_
                    refine lv_bipush (v := 6) S.x S.b d_Mpg_checkPlace_96 (by decide) ?_
                    refine lv_aload_n S.x S.b d_Mpg_checkPlace_98 rfl (lv_at hl 1 rfl) ?_
                    refine lv_iload_n S.x S.b d_Mpg_checkPlace_99 rfl (lv_at hl 2 rfl) ?_
                    first | refine px_calli (pr := []) (px_runV (As := [.int p0]) (rest := [.int 6, .ref h]) S (c_mp_first l D cs h r g tf ta pf na ma wa cf680 ca ef ea xf xa p0  (show 0 ≤ p0.toInt from hrg.2.2) (show p0.toInt < (pf 13).toInt from (oz_7319c2f99d g1 hrg.2.1)) (show (pf 13).toInt ≤ 2100 from g2) htk (FsI.le (N' := (pf 13).toInt) hfs (by omega)) _) hT (pr := []) (pcs := [wdP cs h r g tf ta pf na ma wa cf680 ca ef ea xf xa]) hw px_X.tt (px_recv hT hw 0 0 rfl rfl rfl) m13_9 m13_6 m13_8 ms_12_15 m1_21 q_Mpg_first ⟨Nat.le_of_ble_eq_true rfl, Nat.le_of_ble_eq_true rfl⟩ hl.1 rfl (Nat.le_of_ble_eq_true rfl) d_Mpg_checkPlace_100 ⟨Nat.le_of_ble_eq_true rfl, Nat.le_of_ble_eq_true rfl⟩) hw hA (fun v994 p993 H locs hp993 hw => ?_) | (refine px_calli (pr := []) (px_runV (As := [.int p0]) (rest := [.int 6, .ref h]) S (c_mp_first l D cs h r g tf ta pf na ma wa cf680 ca ef ea xf xa p0  (show 0 ≤ p0.toInt from by first | exact hrg.2.2 | omega) (show p0.toInt < (pf 13).toInt from by first | exact oz_7319c2f99d g1 hrg.2.1 | omega) (show (pf 13).toInt ≤ 2100 from by first | exact g2 | omega) htk (FsI.le (N' := (pf 13).toInt) hfs (by omega)) _) hT (pr := []) (pcs := [wdP cs h r g tf ta pf na ma wa cf680 ca ef ea xf xa]) hw px_X.tt (px_recv hT hw 0 0 rfl rfl rfl) m13_9 m13_6 m13_8 ms_12_15 m1_21 q_Mpg_first ⟨Nat.le_of_ble_eq_true rfl, Nat.le_of_ble_eq_true rfl⟩ hl.1 rfl (Nat.le_of_ble_eq_true rfl) d_Mpg_checkPlace_100 ⟨Nat.le_of_ble_eq_true rfl, Nat.le_of_ble_eq_true rfl⟩) hw hA (fun v994 p993 H locs hp993 hw => ?_))
                    obtain ⟨rfl, e995, e996, e997⟩ := hp993
                    have e995 : 0 ≤ v994.toInt := e995
                    have e996 : v994.toInt < (tf 6).toInt := e996
                    have e997 : R_mp_first na p0 v994 := e997
                    have lv994 := Int32.le_toInt v994
                    have uv994 := Int32.toInt_lt v994
                    first | refine px_callv (pr := []) (px_runV (As := [.int 6, .int v994]) (rest := []) S (c_mp_bad l D cs h r g tf ta pf na ma wa ca ef ea xf xa cf680 6 v994  (show 1 ≤ (6 : Int) from oz_2c1e0e66aa) (show 0 ≤ v994.toInt from e995) (show v994.toInt < (tf 6).toInt from e996) htk hwr _) hT (pr := []) (pcs := [wdP cs h r g tf ta pf na ma wa cf680 ca ef ea xf xa]) hw px_X.tt (px_recv hT hw 0 0 rfl rfl rfl) m12_173 m12_170 m12_172 ms_11_12 m1_21 q_Mpg_bad ⟨Nat.le_of_ble_eq_true rfl, Nat.le_of_ble_eq_true rfl⟩ hl.1 rfl (Nat.le_of_ble_eq_true rfl) d_Mpg_checkPlace_103 ⟨Nat.le_of_ble_eq_true rfl, Nat.le_of_ble_eq_true rfl⟩) hw hA (fun p1000 H locs hp1000 hw => ?_) | (refine px_callv (pr := []) (px_runV (As := [.int 6, .int v994]) (rest := []) S (c_mp_bad l D cs h r g tf ta pf na ma wa ca ef ea xf xa cf680 6 v994  (show 1 ≤ (6 : Int) from by first | exact oz_2c1e0e66aa | omega) (show 0 ≤ v994.toInt from by first | exact e995 | omega) (show v994.toInt < (tf 6).toInt from by first | exact e996 | omega) htk hwr _) hT (pr := []) (pcs := [wdP cs h r g tf ta pf na ma wa cf680 ca ef ea xf xa]) hw px_X.tt (px_recv hT hw 0 0 rfl rfl rfl) m12_173 m12_170 m12_172 ms_11_12 m1_21 q_Mpg_bad ⟨Nat.le_of_ble_eq_true rfl, Nat.le_of_ble_eq_true rfl⟩ hl.1 rfl (Nat.le_of_ble_eq_true rfl) d_Mpg_checkPlace_103 ⟨Nat.le_of_ble_eq_true rfl, Nat.le_of_ble_eq_true rfl⟩) hw hA (fun p1000 H locs hp1000 hw => ?_))
                    obtain ⟨cf999, rfl, e1002, e1003, e1004, e1005, e1006, e1007, e1008, e1009, e1010, e1011, e1012, e1013, e1014, e1015, e1016, e1017, e1018, e1019, e1020, e1021⟩ := hp1000
                    have e1002 : KpE cf680 cf999 := e1002
                    have hke := (hke).tr e1002
                    have hkz_e1002 := e1002.2
                    have e1003 : WrV cf999 (tf 6).toInt := e1003
                    have hwr := e1003
                    have hw0_e1003 := hwr.1
                    have e1004 : 1 ≤ (cf999 30).toInt := e1004
                    have e1005 : (cf999 33).toInt = (cf680 33).toInt := e1005
                    have e1006 : (cf999 38).toInt = (cf680 38).toInt := e1006
                    have e1007 : (cf999 48).toInt = (cf680 48).toInt := e1007
                    have e1008 : (cf999 46).toInt = (cf680 46).toInt := e1008
                    have e1009 : (cf999 47).toInt = (cf680 47).toInt := e1009
                    have e1010 : (cf999 57).toInt = (cf680 57).toInt := e1010
                    have e1011 : (cf999 37).toInt = (cf680 37).toInt := e1011
                    have e1012 : (cf999 42).toInt = (cf680 42).toInt := e1012
                    have e1013 : (cf999 43).toInt = (cf680 43).toInt := e1013
                    have e1014 : (cf999 44).toInt = (cf680 44).toInt := e1014
                    have e1015 : (cf999 45).toInt = (cf680 45).toInt := e1015
                    have e1016 : (cf999 54).toInt = (cf680 54).toInt := e1016
                    have e1017 : (cf999 55).toInt = (cf680 55).toInt := e1017
                    have e1018 : (cf999 58).toInt = (cf680 58).toInt := e1018
                    have e1019 : (cf999 59).toInt = (cf680 59).toInt := e1019
                    have e1020 : (cf999 41).toInt = (cf680 41).toInt := e1020
                    have e1021 : R_mp_bad (6 : Int32) v994 cf680 cf999 := e1021
                    first | exact px_vret S hr hlk hAe hw (Nat.le_of_ble_eq_true rfl) (Nat.le_of_ble_eq_true rfl) (⟨cf999, rfl, (show KpE cf cf999 from hke), (show WrV cf999 (tf 6).toInt from hwr), (show (cf999 33).toInt = (cf 33).toInt from (oz_1687f4cc65 e686 e1005)), (show (cf999 38).toInt = (cf 38).toInt from (oz_1687f4cc65 e687 e1006)), (show (cf999 48).toInt = (cf 48).toInt from (oz_1687f4cc65 e688 e1007)), (show (cf999 46).toInt = (cf 46).toInt from (oz_1687f4cc65 e689 e1008)), (show (cf999 47).toInt = (cf 47).toInt from (oz_1687f4cc65 e690 e1009)), (show (cf999 57).toInt = (cf 57).toInt from (oz_1687f4cc65 e691 e1010)), (show ZPl cf999 na ma p0 p1.toInt from (zr_no (by omega))), (show R_mp_checkPlace ta na ca p0 p1 cf cf999 from (Or.inl (Or.inr ⟨nc1, Or.inr ⟨nc352, v675, e678, cf680, e702, z703, ez703, Or.inr ⟨nc704, z755, ez755, Or.inr ⟨nc756, Or.inr ⟨nc865, z974, ez974, Or.inr ⟨nc975, Or.inr ⟨nc978, z981, ez981, v983, e988, z989, ez989, Or.inl ⟨nc990, v994, e997, cf999, e1021, rfl⟩⟩⟩⟩⟩⟩⟩⟩)))⟩) d_Mpg_checkPlace_106 | (exact px_vret S hr hlk hAe hw (Nat.le_of_ble_eq_true rfl) (Nat.le_of_ble_eq_true rfl) (⟨cf999, rfl, (show KpE cf cf999 from hke), (show WrV cf999 (tf 6).toInt from hwr), (show (cf999 33).toInt = (cf 33).toInt from by first | exact oz_1687f4cc65 e686 e1005 | omega), (show (cf999 38).toInt = (cf 38).toInt from by first | exact oz_1687f4cc65 e687 e1006 | omega), (show (cf999 48).toInt = (cf 48).toInt from by first | exact oz_1687f4cc65 e688 e1007 | omega), (show (cf999 46).toInt = (cf 46).toInt from by first | exact oz_1687f4cc65 e689 e1008 | omega), (show (cf999 47).toInt = (cf 47).toInt from by first | exact oz_1687f4cc65 e690 e1009 | omega), (show (cf999 57).toInt = (cf 57).toInt from by first | exact oz_1687f4cc65 e691 e1010 | omega), (show ZPl cf999 na ma p0 p1.toInt from (zr_no (by omega))), (show R_mp_checkPlace ta na ca p0 p1 cf cf999 from (Or.inl (Or.inr ⟨nc1, Or.inr ⟨nc352, v675, e678, cf680, e702, z703, ez703, Or.inr ⟨nc704, z755, ez755, Or.inr ⟨nc756, Or.inr ⟨nc865, z974, ez974, Or.inr ⟨nc975, Or.inr ⟨nc978, z981, ez981, v983, e988, z989, ez989, Or.inl ⟨nc990, v994, e997, cf999, e1021, rfl⟩⟩⟩⟩⟩⟩⟩⟩)))⟩) d_Mpg_checkPlace_106)
                · have nc990 : z989.toInt = (1 : Int) := (i_eq (x := z989) (y := 1)).mp c990
                  refine lv_iconst (v := 1) S.x S.b d_Mpg_checkPlace_85 (by decide) ?_
                  refine lv_goto (tgt := 90) S.x S.b d_Mpg_checkPlace_86 (by decide) ?_
                  refine lv_istore_n (lv' := [(3, .int 1), (0, .ref h), (1, .int p0), (2, .int p1)]) S.x S.b d_Mpg_checkPlace_90 rfl hl (by decide) rfl (fun ls hl => ?_)
                  refine lv_iload_n S.x S.b d_Mpg_checkPlace_91 rfl (lv_at hl 0 rfl) ?_
                  refine lv_if_ne (tgt := 106) S.x S.b d_Mpg_checkPlace_92 (by decide) (fun c1022 => ?_) (fun c1022 => ?_)
                  ·
                    first | exact px_vret S hr hlk hAe hw (Nat.le_of_ble_eq_true rfl) (Nat.le_of_ble_eq_true rfl) (⟨cf680, rfl, (show KpE cf cf680 from hke), (show WrV cf680 (tf 6).toInt from hwr), (show (cf680 33).toInt = (cf 33).toInt from e686), (show (cf680 38).toInt = (cf 38).toInt from e687), (show (cf680 48).toInt = (cf 48).toInt from e688), (show (cf680 46).toInt = (cf 46).toInt from e689), (show (cf680 47).toInt = (cf 47).toInt from e690), (show (cf680 57).toInt = (cf 57).toInt from e691), (show ZPl cf680 na ma p0 p1.toInt from (zr_no (by omega))), (show R_mp_checkPlace ta na ca p0 p1 cf cf680 from (Or.inl (Or.inr ⟨nc1, Or.inr ⟨nc352, v675, e678, cf680, e702, z703, ez703, Or.inr ⟨nc704, z755, ez755, Or.inr ⟨nc756, Or.inr ⟨nc865, z974, ez974, Or.inr ⟨nc975, Or.inr ⟨nc978, z981, ez981, v983, e988, z989, ez989, Or.inr ⟨nc990, rfl⟩⟩⟩⟩⟩⟩⟩⟩)))⟩) d_Mpg_checkPlace_106 | (exact px_vret S hr hlk hAe hw (Nat.le_of_ble_eq_true rfl) (Nat.le_of_ble_eq_true rfl) (⟨cf680, rfl, (show KpE cf cf680 from hke), (show WrV cf680 (tf 6).toInt from hwr), (show (cf680 33).toInt = (cf 33).toInt from by first | exact e686 | omega), (show (cf680 38).toInt = (cf 38).toInt from by first | exact e687 | omega), (show (cf680 48).toInt = (cf 48).toInt from by first | exact e688 | omega), (show (cf680 46).toInt = (cf 46).toInt from by first | exact e689 | omega), (show (cf680 47).toInt = (cf 47).toInt from by first | exact e690 | omega), (show (cf680 57).toInt = (cf 57).toInt from by first | exact e691 | omega), (show ZPl cf680 na ma p0 p1.toInt from (zr_no (by omega))), (show R_mp_checkPlace ta na ca p0 p1 cf cf680 from (Or.inl (Or.inr ⟨nc1, Or.inr ⟨nc352, v675, e678, cf680, e702, z703, ez703, Or.inr ⟨nc704, z755, ez755, Or.inr ⟨nc756, Or.inr ⟨nc865, z974, ez974, Or.inr ⟨nc975, Or.inr ⟨nc978, z981, ez981, v983, e988, z989, ez989, Or.inr ⟨nc990, rfl⟩⟩⟩⟩⟩⟩⟩⟩)))⟩) d_Mpg_checkPlace_106)
                  · exact absurd c1022 (by decide)
