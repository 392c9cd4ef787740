theorem oz_a7e05de1cd {a0 a1 a2 : Int} (h0 : 0 ≤ a0) (h1 : a0 < a1) (h2 : a1 ≤ a2) (h3 : a2 ≤ 2100) : 0 ≤ a0 ∧ a0 < ((2100 : Nat) : Int) := by omega
theorem oz_38f67f5f3e {a0 a1 : Int} (h0 : (0 : Int) ≤ a0) (h1 : a0 < a1) (h2 : a1 ≤ 1100) : 0 ≤ a0 ∧ a0 < ((1100 : Nat) : Int) := by omega
theorem oz_f8683445ad {a0 : Int} (h0 : ¬ a0 < (0 : Int)) (h1 : ¬ (0 : Int) ≤ a0) : 0 ≤ a0 ∧ a0 < ((1100 : Nat) : Int) := by omega
theorem oz_7319c2f99d {a0 a1 a2 : Int} (h0 : a2 ≤ a1) (h1 : a0 < a2) : a0 < a1 := by omega
theorem m13_6 : Cond.methodLink "HomeSystemModel$Program" 584 ⟨"HomeSystemModel$Program", "first", "(I)I"⟩ ∈ AL := AL_13 (List.mem_of_getElem? (i := 6) rfl) rfl
theorem m13_9 : Cond.code ⟨"HomeSystemModel$Program", "first", "(I)I"⟩ prog_16_method_73_code 2 (Option.some FieldType.int) ∈ AL := AL_13 (List.mem_of_getElem? (i := 9) rfl) rfl
theorem ms_12_15 : Cond.selects "HomeSystemModel$Program" ⟨"HomeSystemModel$Program", "first", "(I)I"⟩ ⟨"HomeSystemModel$Program", "first", "(I)I"⟩ ∈ AL := AL_p (q := (⟨"HomeSystemModel$Program", "first", "(I)I"⟩, 69)) (by unfold lw_privs; exact List.mem_append_right _ (List.mem_append_right _ (List.mem_append_right _ (List.mem_append_right _ (List.mem_append_right _ (List.mem_append_right _ (List.mem_append_right _ (List.mem_append_right _ (List.mem_append_right _ (List.mem_append_right _ (List.mem_append_right _ (List.mem_append_left _ (List.mem_of_getElem? (i := 15) rfl)))))))))))))
theorem m13_8 : Cond.instanceMethod ⟨"HomeSystemModel$Program", "first", "(I)I"⟩ ∈ AL := AL_13 (List.mem_of_getElem? (i := 8) rfl) rfl
abbrev b_Mpg_checkName : ByteArray := prog_16_method_75_code
def y_Mpg_checkName : MethodName := ⟨"HomeSystemModel$Program", "checkName", "(I)I"⟩
theorem d_Mpg_checkName_0 : decode b_Mpg_checkName 0 = .ok (.aload_n 0, 1) := by decide +kernel
theorem d_Mpg_checkName_1 : decode b_Mpg_checkName 1 = .ok (.aload_n 0, 1) := by decide +kernel
theorem d_Mpg_checkName_2 : decode b_Mpg_checkName 2 = .ok (.getfield 210, 3) := by decide +kernel
theorem d_Mpg_checkName_5 : decode b_Mpg_checkName 5 = .ok (.iload_n 1, 1) := by decide +kernel
theorem d_Mpg_checkName_6 : decode b_Mpg_checkName 6 = .ok (.iaload, 1) := by decide +kernel
theorem d_Mpg_checkName_7 : decode b_Mpg_checkName 7 = .ok (.iconst 0, 1) := by decide +kernel
theorem d_Mpg_checkName_8 : decode b_Mpg_checkName 8 = .ok (.invokevirtual 559, 3) := by decide +kernel
theorem d_Mpg_checkName_11 : decode b_Mpg_checkName 11 = .ok (.istore_n 2, 1) := by decide +kernel
theorem d_Mpg_checkName_12 : decode b_Mpg_checkName 12 = .ok (.iload_n 2, 1) := by decide +kernel
theorem d_Mpg_checkName_13 : decode b_Mpg_checkName 13 = .ok (.ifCond .ge 16, 3) := by decide +kernel
theorem d_Mpg_checkName_16 : decode b_Mpg_checkName 16 = .ok (.aload_n 0, 1) := by decide +kernel
theorem d_Mpg_checkName_17 : decode b_Mpg_checkName 17 = .ok (.iconst 2, 1) := by decide +kernel
theorem d_Mpg_checkName_18 : decode b_Mpg_checkName 18 = .ok (.aload_n 0, 1) := by decide +kernel
theorem d_Mpg_checkName_19 : decode b_Mpg_checkName 19 = .ok (.getfield 210, 3) := by decide +kernel
theorem d_Mpg_checkName_22 : decode b_Mpg_checkName 22 = .ok (.iload_n 1, 1) := by decide +kernel
theorem d_Mpg_checkName_23 : decode b_Mpg_checkName 23 = .ok (.iaload, 1) := by decide +kernel
theorem d_Mpg_checkName_24 : decode b_Mpg_checkName 24 = .ok (.invokevirtual 565, 3) := by decide +kernel
theorem d_Mpg_checkName_27 : decode b_Mpg_checkName 27 = .ok (.iconst 0, 1) := by decide +kernel
theorem d_Mpg_checkName_28 : decode b_Mpg_checkName 28 = .ok (.ireturn, 1) := by decide +kernel
theorem d_Mpg_checkName_29 : decode b_Mpg_checkName 29 = .ok (.aload_n 0, 1) := by decide +kernel
theorem d_Mpg_checkName_30 : decode b_Mpg_checkName 30 = .ok (.getfield 249, 3) := by decide +kernel
theorem d_Mpg_checkName_33 : decode b_Mpg_checkName 33 = .ok (.iload_n 2, 1) := by decide +kernel
theorem d_Mpg_checkName_34 : decode b_Mpg_checkName 34 = .ok (.iaload, 1) := by decide +kernel
theorem d_Mpg_checkName_35 : decode b_Mpg_checkName 35 = .ok (.istore_n 3, 1) := by decide +kernel
theorem d_Mpg_checkName_36 : decode b_Mpg_checkName 36 = .ok (.aload_n 0, 1) := by decide +kernel
theorem d_Mpg_checkName_37 : decode b_Mpg_checkName 37 = .ok (.getfield 219, 3) := by decide +kernel
theorem d_Mpg_checkName_40 : decode b_Mpg_checkName 40 = .ok (.iload_n 1, 1) := by decide +kernel
theorem d_Mpg_checkName_41 : decode b_Mpg_checkName 41 = .ok (.aload_n 0, 1) := by decide +kernel
theorem d_Mpg_checkName_42 : decode b_Mpg_checkName 42 = .ok (.getfield 274, 3) := by decide +kernel
theorem d_Mpg_checkName_45 : decode b_Mpg_checkName 45 = .ok (.iload_n 2, 1) := by decide +kernel
theorem d_Mpg_checkName_46 : decode b_Mpg_checkName 46 = .ok (.iaload, 1) := by decide +kernel
theorem d_Mpg_checkName_47 : decode b_Mpg_checkName 47 = .ok (.iastore, 1) := by decide +kernel
theorem d_Mpg_checkName_48 : decode b_Mpg_checkName 48 = .ok (.aload_n 0, 1) := by decide +kernel
theorem d_Mpg_checkName_49 : decode b_Mpg_checkName 49 = .ok (.getfield 222, 3) := by decide +kernel
theorem d_Mpg_checkName_52 : decode b_Mpg_checkName 52 = .ok (.iload_n 1, 1) := by decide +kernel
theorem d_Mpg_checkName_53 : decode b_Mpg_checkName 53 = .ok (.aload_n 0, 1) := by decide +kernel
theorem d_Mpg_checkName_54 : decode b_Mpg_checkName 54 = .ok (.getfield 252, 3) := by decide +kernel
theorem d_Mpg_checkName_57 : decode b_Mpg_checkName 57 = .ok (.iload_n 2, 1) := by decide +kernel
theorem d_Mpg_checkName_58 : decode b_Mpg_checkName 58 = .ok (.iaload, 1) := by decide +kernel
theorem d_Mpg_checkName_59 : decode b_Mpg_checkName 59 = .ok (.iastore, 1) := by decide +kernel
theorem d_Mpg_checkName_60 : decode b_Mpg_checkName 60 = .ok (.iload_n 3, 1) := by decide +kernel
theorem d_Mpg_checkName_61 : decode b_Mpg_checkName 61 = .ok (.iconst 2, 1) := by decide +kernel
theorem d_Mpg_checkName_62 : decode b_Mpg_checkName 62 = .ok (.if_icmp .ne 7, 3) := by decide +kernel
theorem d_Mpg_checkName_65 : decode b_Mpg_checkName 65 = .ok (.iconst 2, 1) := by decide +kernel
theorem d_Mpg_checkName_66 : decode b_Mpg_checkName 66 = .ok (.goto 13, 3) := by decide +kernel
theorem d_Mpg_checkName_69 : decode b_Mpg_checkName 69 = .ok (.iload_n 3, 1) := by decide +kernel
theorem d_Mpg_checkName_70 : decode b_Mpg_checkName 70 = .ok (.iconst 3, 1) := by decide +kernel
theorem d_Mpg_checkName_71 : decode b_Mpg_checkName 71 = .ok (.if_icmp .ne 7, 3) := by decide +kernel
theorem d_Mpg_checkName_74 : decode b_Mpg_checkName 74 = .ok (.iconst 3, 1) := by decide +kernel
theorem d_Mpg_checkName_75 : decode b_Mpg_checkName 75 = .ok (.goto 4, 3) := by decide +kernel
theorem d_Mpg_checkName_78 : decode b_Mpg_checkName 78 = .ok (.iconst 1, 1) := by decide +kernel
theorem d_Mpg_checkName_79 : decode b_Mpg_checkName 79 = .ok (.ireturn, 1) := by decide +kernel
theorem q_Mpg_checkName : px_y y_Mpg_checkName 1 := by unfold px_y; decide +kernel
set_option maxHeartbeats 4000000 in
set_option maxRecDepth 100000 in
theorem c_mp_checkName (l : Launch) (D : va_G) (cs : Nat → ClassId) (ma0 : Nat → Nat → Int32) (ys : Int) (ns : Int) (nf : Int) (kn : Int) (d : Nat) (lo : Int) (hi : Int) (h : Nat) (r : Nat → Nat) (g : Nat → Nat → Option Nat) (tf : Nat → Int32) (ta : Nat → Nat → Int32) (pf : Nat → Int32) (na : Nat → Nat → Int32) (wa : Nat → Nat → Int32) (ca : Nat → Nat → Int32) (ef : Nat → Int32) (ea : Nat → Nat → Int32) (xf : Nat → Int32) (xa : Nat → Nat → Int32) (ma : Nat → Nat → Int32) (cf : Nat → Int32) (p0 : Int32)  (g0 : 0 ≤ lo) (g1 : hi ≤ (pf 13).toInt) (g2 : (pf 13).toInt ≤ 2100) (g3 : (tf 6).toInt ≤ 2049) (g4 : (cf 33).toInt = kn) (g5 : 0 ≤ kn) (g6 : (cf 48).toInt = ns) (g7 : (cf 38).toInt = nf) (g8 : 0 ≤ nf) (g9 : (na 14 p0.toNatClampNeg).toInt = 2) (htk : TkI tf ta) (hfs : FsI (tf 6).toInt (pf 13).toInt na) (hwr : WrV cf (tf 6).toInt) (hkt : KnT (tf 6).toInt ca (cf 33).toInt) (hft : FnT (tf 6).toInt na ca (cf 38).toInt) (hks : KnS ca kn ns ys) (han : Ann na ma0 ma) (hec : EcV ta (tf 6).toInt na ma0 d lo hi p0) : MetI l y_Mpg_checkName b_Mpg_checkName 4 (.int) D cs 3 120 (0) (0) [.ref h, .int p0] [wdP cs h r g tf ta pf na ma wa cf ca ef ea xf xa] (oX (fun A U H => (oP A g U H)) [wdP cs h r g tf ta pf na ma wa cf ca ef ea xf xa]) (fun v ps => ∃ (ma' : Nat → Nat → Int32) (cf' : Nat → Int32), (ps = [wdP cs h r g tf ta pf na ma' wa cf' ca ef ea xf xa]) ∧ (KpE cf cf') ∧ (WrV cf' (tf 6).toInt) ∧ ((cf' 33).toInt = (cf 33).toInt) ∧ ((cf' 38).toInt = (cf 38).toInt) ∧ ((cf' 48).toInt = (cf 48).toInt) ∧ ((cf' 46).toInt = (cf 46).toInt) ∧ ((cf' 47).toInt = (cf 47).toInt) ∧ ((cf' 57).toInt = (cf 57).toInt) ∧ (Ann na ma0 ma') ∧ (FrC lo hi ma ma') ∧ (0 ≤ v.toInt) ∧ (v.toInt ≤ 3) ∧ (NmO ta ca na ma' kn p0 v.toInt) ∧ (ZTy cf' (Gk ta ca na ma0 ns ys nf) na ma' lo hi p0 v.toInt)) := by
  refine px_enter (by decide) (Nat.le_of_ble_eq_true rfl) ?_
  intro p e s m below meth c A ls hAe S hr hlk hnm hA hT hX hw hl
  have hl : lv_has ls 4 [(0, .ref h), (1, .int p0)] := hl
  have lp0 := Int32.le_toInt p0
  have up0 := Int32.toInt_lt p0
  have cst0 : (0 : Int32).toInt = 0 := rfl
  have cst1 : (1 : Int32).toInt = 1 := rfl
  have cst2 : (2 : Int32).toInt = 2 := rfl
  have cst3 : (3 : Int32).toInt = 3 := rfl
  have hX : (fun A U H => (oP A g U H)) A s s.heap := by rw [hAe]; exact hX
  have hP := hX
  have hZ := hP.1
  have hF0 := hP.2.1
  have hke : KpE cf cf := KpE.rf
  have hfc : FrC lo hi ma ma := FrC.rf
  have hwr0 := hwr.1
  have hk11 := hkt.1
  have hf11 := hft.1
  have hec_p0 := hec
  have hrg := EcV.rng hec
  refine lv_aload_n S.x S.b d_Mpg_checkName_0 rfl (lv_at hl 0 rfl) ?_
  refine lv_aload_n S.x S.b d_Mpg_checkName_1 rfl (lv_at hl 0 rfl) ?_
  refine px_get S k_Mpg hT hw 0 0 15 (v := .ref (r 15)) rfl rfl rfl (by decide) m9_239 d_Mpg_checkName_2 ?_
  refine lv_iload_n S.x S.b d_Mpg_checkName_5 rfl (lv_at hl 1 rfl) ?_
  refine px_iald S hT hw 0 11 (n := 2100) (f := (na 15)) rfl gp_15 (x := p0) (vp_in_iff.mpr (by first | exact oz_a7e05de1cd hrg.2.2 hrg.2.1 g1 g2 | (constructor <;> omega))) d_Mpg_checkName_6 ?_
  refine lv_topi (fun z1 ez1 => ?_)
  have lz1 := Int32.le_toInt z1
  have uz1 := Int32.toInt_lt z1
  have rz1 := EcV.tok hec_p0 ez1
  refine lv_iconst (v := 0) S.x S.b d_Mpg_checkName_7 (by decide) ?_
  refine px_calli (pr := []) (px_runV (As := [.int z1, .int 0]) (rest := []) S (c_mp_find l D cs h r g tf ta pf na ma wa cf ca ef ea xf xa z1 0  (show 0 ≤ z1.toInt from by first | exact rz1.1 | omega) (show z1.toInt < (tf 6).toInt from by first | exact oz_7fe81129bf rz1.2 | omega) (show (tf 6).toInt ≤ 2049 from by first | exact g3 | omega) (show 0 ≤ (0 : Int) from by first | decide | omega) (show 0 ≤ (cf 33).toInt from by first | exact oz_f3ebed1ad0 g4 g5 | omega) htk (KnT.eq hkt (by first | with_reducible rfl | with_reducible assumption | omega)) _) hT (pr := []) (pcs := [wdP cs h r g tf ta pf na ma wa cf ca ef ea xf xa]) hw px_X.tt (px_recv hT hw 0 0 rfl rfl rfl) m12_181 m12_178 m12_180 ms_11_14 m1_21 q_Mpg_find ⟨Nat.le_of_ble_eq_true rfl, Nat.le_of_ble_eq_true rfl⟩ hl.1 rfl (Nat.le_of_ble_eq_true rfl) d_Mpg_checkName_8 ⟨Nat.le_of_ble_eq_true rfl, Nat.le_of_ble_eq_true rfl⟩) hw hA (fun v3 p2 H locs hp2 hw => ?_)
  obtain ⟨rfl, e4, e5, e6, e7⟩ := hp2
  have e4 : -1 ≤ v3.toInt := e4
  have e5 : v3.toInt < (cf 33).toInt := e5
  have e6 : 0 ≤ v3.toInt → (0 : Int) ≤ v3.toInt := e6
  have e7 : FndV ta ca (cf 33).toInt z1 (0 : Int) v3.toInt := e7
  have hfd := e7
  have hw : pw D A s.heap H locs [wdP cs h r g tf ta pf na ma wa cf ca ef ea xf xa] := hw
  have lv3 := Int32.le_toInt v3
  have uv3 := Int32.toInt_lt v3
  refine lv_istore_n (lv' := [(2, .int v3), (0, .ref h), (1, .int p0)]) S.x S.b d_Mpg_checkName_11 rfl hl (by decide) rfl (fun ls hl => ?_)
  refine lv_iload_n S.x S.b d_Mpg_checkName_12 rfl (lv_at hl 0 rfl) ?_
  refine lv_if_ge (tgt := 29) S.x S.b d_Mpg_checkName_13 (by decide) (fun c8 => ?_) (fun c8 => ?_)
  · have nc8 : (0 : Int) ≤ v3.toInt := (i_le (x := 0) (y := v3)).mp c8
    refine lv_aload_n S.x S.b d_Mpg_checkName_29 rfl (lv_at hl 1 rfl) ?_
    refine px_get S k_Mpg hT hw 0 0 35 (v := .ref (r 35)) rfl rfl rfl (by decide) m10_24 d_Mpg_checkName_30 ?_
    refine lv_iload_n S.x S.b d_Mpg_checkName_33 rfl (lv_at hl 0 rfl) ?_
    refine px_iald S hT hw 0 24 (n := 1100) (f := (ca 35)) rfl gp_35 (x := v3) (vp_in_iff.mpr (by first | exact oz_38f67f5f3e nc8 e5 hk11 | (constructor <;> omega))) d_Mpg_checkName_34 ?_
    refine lv_topi (fun z9 ez9 => ?_)
    have lz9 := Int32.le_toInt z9
    have uz9 := Int32.toInt_lt z9
    refine lv_istore_n (lv' := [(3, .int z9), (2, .int v3), (0, .ref h), (1, .int p0)]) S.x S.b d_Mpg_checkName_35 rfl hl (by decide) rfl (fun ls hl => ?_)
    refine lv_aload_n S.x S.b d_Mpg_checkName_36 rfl (lv_at hl 2 rfl) ?_
    refine px_get S k_Mpg hT hw 0 0 18 (v := .ref (r 18)) rfl rfl rfl (by decide) m10_3 d_Mpg_checkName_37 ?_
    refine lv_iload_n S.x S.b d_Mpg_checkName_40 rfl (lv_at hl 3 rfl) ?_
    refine lv_aload_n S.x S.b d_Mpg_checkName_41 rfl (lv_at hl 2 rfl) ?_
    refine px_get S k_Mpg hT hw 0 0 53 (v := .ref (r 53)) rfl rfl rfl (by decide) m10_48 d_Mpg_checkName_42 ?_
    refine lv_iload_n S.x S.b d_Mpg_checkName_45 rfl (lv_at hl 1 rfl) ?_
    refine px_iald S hT hw 0 32 (n := 1100) (f := (ca 53)) rfl gp_53 (x := v3) (vp_in_iff.mpr (by first | exact oz_38f67f5f3e nc8 e5 hk11 | (constructor <;> omega))) d_Mpg_checkName_46 ?_
    refine lv_topi (fun z10 ez10 => ?_)
    have lz10 := Int32.le_toInt z10
    have uz10 := Int32.toInt_lt z10
    have hkn := KnS.at hks (k := v3) (by first | with_reducible rfl | with_reducible assumption | omega) (by first | with_reducible rfl | with_reducible assumption | omega) ez9 ez10
    refine px_iast S hT hw 0 14 (n := 2100) (f := (ma 18)) (x := p0) (y := z10) rfl gp_18 (vp_in_iff.mpr (by constructor <;> omega)) d_Mpg_checkName_47 (w' := wdP cs h r g tf ta pf na (va_up ma 18 (upd (ma 18) p0.toNatClampNeg z10)) wa cf ca ef ea xf xa) (ps' := [wdP cs h r g tf ta pf na (va_up ma 18 (upd (ma 18) p0.toNatClampNeg z10)) wa cf ca ef ea xf xa]) sp_18 rfl (fun H locs hw => ?_)
    obtain ⟨ma11, hu_ma11⟩ : ∃ y : Nat → Nat → Int32, y = va_up ma 18 (upd (ma 18) p0.toNatClampNeg z10) := ⟨_, rfl⟩
    have hw : pw D A s.heap _ _ [wdP cs h r g tf ta pf na ma11 wa cf ca ef ea xf xa] := (by rw [hu_ma11]; exact hw)
    have hf1_ma11 : FrC p0.toInt (p0.toInt + 1) ma ma11 := (by rw [hu_ma11]; exact FrC.w FrC.rf (by first | with_reducible rfl | with_reducible assumption | omega) (by first | with_reducible rfl | with_reducible assumption | omega) (by first | with_reducible rfl | with_reducible assumption | omega))
    have han : Ann na ma0 ma11 := (by rw [hu_ma11]; exact Ann.w18 han (by first | with_reducible rfl | with_reducible assumption | omega))
    have hfc := hfc.tr hf1_ma11 (by first | with_reducible rfl | with_reducible assumption | omega) (by first | with_reducible rfl | with_reducible assumption | omega)
    have hv_18_p0 : ma11 18 p0.toNatClampNeg = z10 := (by rw [hu_ma11, va_up_s, pk_us])
    have hnhv_18_p0 : (ma11 18 p0.toNatClampNeg).toInt = z10.toInt := (by rw [hv_18_p0])
    refine lv_aload_n S.x S.b d_Mpg_checkName_48 rfl (lv_at hl 2 rfl) ?_
    refine px_get S k_Mpg hT hw 0 0 19 (v := .ref (r 19)) rfl rfl rfl (by decide) m10_5 d_Mpg_checkName_49 ?_
    refine lv_iload_n S.x S.b d_Mpg_checkName_52 rfl (lv_at hl 3 rfl) ?_
    refine lv_aload_n S.x S.b d_Mpg_checkName_53 rfl (lv_at hl 2 rfl) ?_
    refine px_get S k_Mpg hT hw 0 0 36 (v := .ref (r 36)) rfl rfl rfl (by decide) m10_25 d_Mpg_checkName_54 ?_
    refine lv_iload_n S.x S.b d_Mpg_checkName_57 rfl (lv_at hl 1 rfl) ?_
    refine px_iald S hT hw 0 25 (n := 1100) (f := (ca 36)) rfl gp_36 (x := v3) (vp_in_iff.mpr (by first | exact oz_38f67f5f3e nc8 e5 hk11 | (constructor <;> omega))) d_Mpg_checkName_58 ?_
    refine lv_topi (fun z12 ez12 => ?_)
    have lz12 := Int32.le_toInt z12
    have uz12 := Int32.toInt_lt z12
    refine px_iast S hT hw 0 15 (n := 2100) (f := (ma11 19)) (x := p0) (y := z12) rfl gp_19 (vp_in_iff.mpr (by constructor <;> omega)) d_Mpg_checkName_59 (w' := wdP cs h r g tf ta pf na (va_up ma11 19 (upd (ma11 19) p0.toNatClampNeg z12)) wa cf ca ef ea xf xa) (ps' := [wdP cs h r g tf ta pf na (va_up ma11 19 (upd (ma11 19) p0.toNatClampNeg z12)) wa cf ca ef ea xf xa]) sp_19 rfl (fun H locs hw => ?_)
    obtain ⟨ma13, hu_ma13⟩ : ∃ y : Nat → Nat → Int32, y = va_up ma11 19 (upd (ma11 19) p0.toNatClampNeg z12) := ⟨_, rfl⟩
    have hw : pw D A s.heap _ _ [wdP cs h r g tf ta pf na ma13 wa cf ca ef ea xf xa] := (by rw [hu_ma13]; exact hw)
    have hf1_ma13 : FrC p0.toInt (p0.toInt + 1) ma11 ma13 := (by rw [hu_ma13]; exact FrC.w FrC.rf (by first | with_reducible rfl | with_reducible assumption | omega) (by first | with_reducible rfl | with_reducible assumption | omega) (by first | with_reducible rfl | with_reducible assumption | omega))
    have han : Ann na ma0 ma13 := (by rw [hu_ma13]; exact Ann.w19 han (by first | with_reducible rfl | with_reducible assumption | omega))
    have hfc := hfc.tr hf1_ma13 (by first | with_reducible rfl | with_reducible assumption | omega) (by first | with_reducible rfl | with_reducible assumption | omega)
    have hqhv_18_p0 : (ma13 18 p0.toNatClampNeg).toInt = (ma11 18 p0.toNatClampNeg).toInt := (by rw [hu_ma13, va_up_n (by decide)])
    have hv_18_p0 := (show ma13 18 p0.toNatClampNeg = ma11 18 p0.toNatClampNeg by rw [hu_ma13, va_up_n (by decide)]).trans hv_18_p0
    have hv_19_p0 : ma13 19 p0.toNatClampNeg = z12 := (by rw [hu_ma13, va_up_s, pk_us])
    have hnhv_19_p0 : (ma13 19 p0.toNatClampNeg).toInt = z12.toInt := (by rw [hv_19_p0])
    refine lv_iload_n S.x S.b d_Mpg_checkName_60 rfl (lv_at hl 0 rfl) ?_
    refine lv_iconst (v := 2) S.x S.b d_Mpg_checkName_61 (by decide) ?_
    refine lv_icmp_ne (tgt := 69) S.x S.b d_Mpg_checkName_62 (by decide) (fun c14 => ?_) (fun c14 => ?_)
    · have nc14 : ¬ z9.toInt = (2 : Int) := mt (i_eq (x := z9) (y := 2)).mpr c14
      refine lv_iload_n S.x S.b d_Mpg_checkName_69 rfl (lv_at hl 0 rfl) ?_
      refine lv_iconst (v := 3) S.x S.b d_Mpg_checkName_70 (by decide) ?_
      refine lv_icmp_ne (tgt := 78) S.x S.b d_Mpg_checkName_71 (by decide) (fun c15 => ?_) (fun c15 => ?_)
      · have nc15 : ¬ z9.toInt = (3 : Int) := mt (i_eq (x := z9) (y := 3)).mpr c15
        refine lv_iconst (v := 1) S.x S.b d_Mpg_checkName_78 (by decide) ?_
        exact px_iret (v := 1) S hr rfl hlk hAe hw (Nat.le_of_ble_eq_true rfl) (Nat.le_of_ble_eq_true rfl) (⟨ma13, cf, rfl, (show KpE cf cf from hke), (show WrV cf (tf 6).toInt from hwr), (show (cf 33).toInt = (cf 33).toInt from rfl), (show (cf 38).toInt = (cf 38).toInt from rfl), (show (cf 48).toInt = (cf 48).toInt from rfl), (show (cf 46).toInt = (cf 46).toInt from rfl), (show (cf 47).toInt = (cf 47).toInt from rfl), (show (cf 57).toInt = (cf 57).toInt from rfl), (show Ann na ma0 ma13 from han), (show FrC lo hi ma ma13 from hfc), (show 0 ≤ (1 : Int) from by first | decide | omega), (show (1 : Int) ≤ 3 from by first | decide | omega), (show NmO ta ca na ma13 kn p0 (1 : Int) from (nmo_1 hfd ez1 (by first | with_reducible rfl | with_reducible assumption | omega) (by first | with_reducible rfl | with_reducible assumption | omega) hv_18_p0 ez10 (by first | with_reducible rfl | with_reducible assumption | omega))), (show ZTy cf (Gk ta ca na ma0 ns ys nf) na ma13 lo hi p0 (1 : Int) from (fun _ => nm_ty hrg (by first | with_reducible rfl | with_reducible assumption | omega) hv_18_p0 hkn (by first | with_reducible rfl | with_reducible assumption | omega)))⟩) d_Mpg_checkName_79
      · have nc15 : z9.toInt = (3 : Int) := (i_eq (x := z9) (y := 3)).mp c15
        refine lv_iconst (v := 3) S.x S.b d_Mpg_checkName_74 (by decide) ?_
        refine lv_goto (tgt := 79) S.x S.b d_Mpg_checkName_75 (by decide) ?_
        exact px_iret (v := 3) S hr rfl hlk hAe hw (Nat.le_of_ble_eq_true rfl) (Nat.le_of_ble_eq_true rfl) (⟨ma13, cf, rfl, (show KpE cf cf from hke), (show WrV cf (tf 6).toInt from hwr), (show (cf 33).toInt = (cf 33).toInt from rfl), (show (cf 38).toInt = (cf 38).toInt from rfl), (show (cf 48).toInt = (cf 48).toInt from rfl), (show (cf 46).toInt = (cf 46).toInt from rfl), (show (cf 47).toInt = (cf 47).toInt from rfl), (show (cf 57).toInt = (cf 57).toInt from rfl), (show Ann na ma0 ma13 from han), (show FrC lo hi ma ma13 from hfc), (show 0 ≤ (3 : Int) from by first | decide | omega), (show (3 : Int) ≤ 3 from by first | decide | omega), (show NmO ta ca na ma13 kn p0 (3 : Int) from (nmo_1 hfd ez1 (by first | with_reducible rfl | with_reducible assumption | omega) (by first | with_reducible rfl | with_reducible assumption | omega) hv_18_p0 ez10 (by first | with_reducible rfl | with_reducible assumption | omega))), (show ZTy cf (Gk ta ca na ma0 ns ys nf) na ma13 lo hi p0 (3 : Int) from (fun _ => nm_ty hrg (by first | with_reducible rfl | with_reducible assumption | omega) hv_18_p0 hkn (by first | with_reducible rfl | with_reducible assumption | omega)))⟩) d_Mpg_checkName_79
    · have nc14 : z9.toInt = (2 : Int) := (i_eq (x := z9) (y := 2)).mp c14
      refine lv_iconst (v := 2) S.x S.b d_Mpg_checkName_65 (by decide) ?_
      refine lv_goto (tgt := 79) S.x S.b d_Mpg_checkName_66 (by decide) ?_
      exact px_iret (v := 2) S hr rfl hlk hAe hw (Nat.le_of_ble_eq_true rfl) (Nat.le_of_ble_eq_true rfl) (⟨ma13, cf, rfl, (show KpE cf cf from hke), (show WrV cf (tf 6).toInt from hwr), (show (cf 33).toInt = (cf 33).toInt from rfl), (show (cf 38).toInt = (cf 38).toInt from rfl), (show (cf 48).toInt = (cf 48).toInt from rfl), (show (cf 46).toInt = (cf 46).toInt from rfl), (show (cf 47).toInt = (cf 47).toInt from rfl), (show (cf 57).toInt = (cf 57).toInt from rfl), (show Ann na ma0 ma13 from han), (show FrC lo hi ma ma13 from hfc), (show 0 ≤ (2 : Int) from by first | decide | omega), (show (2 : Int) ≤ 3 from by first | decide | omega), (show NmO ta ca na ma13 kn p0 (2 : Int) from (nmo_1 hfd ez1 (by first | with_reducible rfl | with_reducible assumption | omega) (by first | with_reducible rfl | with_reducible assumption | omega) hv_18_p0 ez10 (by first | with_reducible rfl | with_reducible assumption | omega))), (show ZTy cf (Gk ta ca na ma0 ns ys nf) na ma13 lo hi p0 (2 : Int) from (fun _ => nm_ty hrg (by first | with_reducible rfl | with_reducible assumption | omega) hv_18_p0 hkn (by first | with_reducible rfl | with_reducible assumption | omega)))⟩) d_Mpg_checkName_79
  · have nc8 : ¬ (0 : Int) ≤ v3.toInt := mt (i_le (x := 0) (y := v3)).mpr c8
    refine lv_aload_n S.x S.b d_Mpg_checkName_16 rfl (lv_at hl 1 rfl) ?_
    refine lv_iconst (v := 2) S.x S.b d_Mpg_checkName_17 (by decide) ?_
    refine lv_aload_n S.x S.b d_Mpg_checkName_18 rfl (lv_at hl 1 rfl) ?_
    refine px_get S k_Mpg hT hw 0 0 15 (v := .ref (r 15)) rfl rfl rfl (by decide) m9_239 d_Mpg_checkName_19 ?_
    refine lv_iload_n S.x S.b d_Mpg_checkName_22 rfl (lv_at hl 2 rfl) ?_
    refine px_iald S hT hw 0 11 (n := 2100) (f := (na 15)) rfl gp_15 (x := p0) (vp_in_iff.mpr (by first | exact oz_a7e05de1cd hrg.2.2 hrg.2.1 g1 g2 | (constructor <;> omega))) d_Mpg_checkName_23 ?_
    refine lv_topi (fun z16 ez16 => ?_)
    have lz16 := Int32.le_toInt z16
    have uz16 := Int32.toInt_lt z16
    have rz16 := EcV.tok hec_p0 ez16
    refine px_callv (pr := []) (px_runV (As := [.int 2, .int z16]) (rest := []) S (c_mp_bad l D cs h r g tf ta pf na ma wa ca ef ea xf xa cf 2 z16  (show 1 ≤ (2 : Int) from by first | decide | omega) (show 0 ≤ z16.toInt from by first | exact rz16.1 | omega) (show z16.toInt < (tf 6).toInt from by first | exact oz_7fe81129bf rz16.2 | omega) htk hwr _) hT (pr := []) (pcs := [wdP cs h r g tf ta pf na ma wa cf ca ef ea xf xa]) hw px_X.tt (px_recv hT hw 0 0 rfl rfl rfl) m12_173 m12_170 m12_172 ms_11_12 m1_21 q_Mpg_bad ⟨Nat.le_of_ble_eq_true rfl, Nat.le_of_ble_eq_true rfl⟩ hl.1 rfl (Nat.le_of_ble_eq_true rfl) d_Mpg_checkName_24 ⟨Nat.le_of_ble_eq_true rfl, Nat.le_of_ble_eq_true rfl⟩) hw hA (fun p19 H locs hp19 hw => ?_)
    obtain ⟨cf18, rfl, e21, e22, e23, e24, e25, e26, e27, e28, e29, e30, e31, e32, e33, e34, e35, e36, e37, e38, e39⟩ := hp19
    have e21 : KpE cf cf18 := e21
    have hke := (hke).tr e21
    have hkz_e21 := e21.2
    have e22 : WrV cf18 (tf 6).toInt := e22
    have hwr := e22
    have hw0_e22 := hwr.1
    have e23 : 1 ≤ (cf18 30).toInt := e23
    have e24 : (cf18 33).toInt = (cf 33).toInt := e24
    have e25 : (cf18 38).toInt = (cf 38).toInt := e25
    have e26 : (cf18 48).toInt = (cf 48).toInt := e26
    have e27 : (cf18 46).toInt = (cf 46).toInt := e27
    have e28 : (cf18 47).toInt = (cf 47).toInt := e28
    have e29 : (cf18 57).toInt = (cf 57).toInt := e29
    have e30 : (cf18 37).toInt = (cf 37).toInt := e30
    have e31 : (cf18 42).toInt = (cf 42).toInt := e31
    have e32 : (cf18 43).toInt = (cf 43).toInt := e32
    have e33 : (cf18 44).toInt = (cf 44).toInt := e33
    have e34 : (cf18 45).toInt = (cf 45).toInt := e34
    have e35 : (cf18 54).toInt = (cf 54).toInt := e35
    have e36 : (cf18 55).toInt = (cf 55).toInt := e36
    have e37 : (cf18 58).toInt = (cf 58).toInt := e37
    have e38 : (cf18 59).toInt = (cf 59).toInt := e38
    have e39 : (cf18 41).toInt = (cf 41).toInt := e39
    have hw : pw D A s.heap H locs [wdP cs h r g tf ta pf na ma wa cf18 ca ef ea xf xa] := hw
    refine lv_iconst (v := 0) S.x S.b d_Mpg_checkName_27 (by decide) ?_
    exact px_iret (v := 0) S hr rfl hlk hAe hw (Nat.le_of_ble_eq_true rfl) (Nat.le_of_ble_eq_true rfl) (⟨ma, cf18, rfl, (show KpE cf cf18 from hke), (show WrV cf18 (tf 6).toInt from hwr), (show (cf18 33).toInt = (cf 33).toInt from by first | exact e24 | omega), (show (cf18 38).toInt = (cf 38).toInt from by first | exact e25 | omega), (show (cf18 48).toInt = (cf 48).toInt from by first | exact e26 | omega), (show (cf18 46).toInt = (cf 46).toInt from by first | exact e27 | omega), (show (cf18 47).toInt = (cf 47).toInt from by first | exact e28 | omega), (show (cf18 57).toInt = (cf 57).toInt from by first | exact e29 | omega), (show Ann na ma0 ma from han), (show FrC lo hi ma ma from hfc), (show 0 ≤ (0 : Int) from by first | decide | omega), (show (0 : Int) ≤ 3 from by first | decide | omega), (show NmO ta ca na ma kn p0 (0 : Int) from (nmo_0 hfd ez1 (by first | with_reducible rfl | with_reducible assumption | omega) (by first | with_reducible rfl | with_reducible assumption | omega))), (show ZTy cf18 (Gk ta ca na ma0 ns ys nf) na ma lo hi p0 (0 : Int) from (zr_no (by first | with_reducible rfl | with_reducible assumption | omega)))⟩) d_Mpg_checkName_28
abbrev b_Mpg_checkIndex : ByteArray := prog_16_method_77_code
def y_Mpg_checkIndex : MethodName := ⟨"HomeSystemModel$Program", "checkIndex", "(I)V"⟩
theorem d_Mpg_checkIndex_0 : decode b_Mpg_checkIndex 0 = .ok (.aload_n 0, 1) := by decide +kernel
theorem d_Mpg_checkIndex_1 : decode b_Mpg_checkIndex 1 = .ok (.getfield 210, 3) := by decide +kernel
theorem d_Mpg_checkIndex_4 : decode b_Mpg_checkIndex 4 = .ok (.iload_n 1, 1) := by decide +kernel
theorem d_Mpg_checkIndex_5 : decode b_Mpg_checkIndex 5 = .ok (.iaload, 1) := by decide +kernel
theorem d_Mpg_checkIndex_6 : decode b_Mpg_checkIndex 6 = .ok (.istore_n 2, 1) := by decide +kernel
theorem d_Mpg_checkIndex_7 : decode b_Mpg_checkIndex 7 = .ok (.aload_n 0, 1) := by decide +kernel
theorem d_Mpg_checkIndex_8 : decode b_Mpg_checkIndex 8 = .ok (.iload_n 2, 1) := by decide +kernel
theorem d_Mpg_checkIndex_9 : decode b_Mpg_checkIndex 9 = .ok (.iconst 0, 1) := by decide +kernel
theorem d_Mpg_checkIndex_10 : decode b_Mpg_checkIndex 10 = .ok (.invokevirtual 559, 3) := by decide +kernel
theorem d_Mpg_checkIndex_13 : decode b_Mpg_checkIndex 13 = .ok (.istore_n 3, 1) := by decide +kernel
theorem d_Mpg_checkIndex_14 : decode b_Mpg_checkIndex 14 = .ok (.iload_n 3, 1) := by decide +kernel
theorem d_Mpg_checkIndex_15 : decode b_Mpg_checkIndex 15 = .ok (.ifCond .ge 20, 3) := by decide +kernel
theorem d_Mpg_checkIndex_18 : decode b_Mpg_checkIndex 18 = .ok (.aload_n 0, 1) := by decide +kernel
theorem d_Mpg_checkIndex_19 : decode b_Mpg_checkIndex 19 = .ok (.iload_n 2, 1) := by decide +kernel
theorem d_Mpg_checkIndex_20 : decode b_Mpg_checkIndex 20 = .ok (.invokevirtual 562, 3) := by decide +kernel
theorem d_Mpg_checkIndex_23 : decode b_Mpg_checkIndex 23 = .ok (.ifCond .ne 12, 3) := by decide +kernel
theorem d_Mpg_checkIndex_26 : decode b_Mpg_checkIndex 26 = .ok (.aload_n 0, 1) := by decide +kernel
theorem d_Mpg_checkIndex_27 : decode b_Mpg_checkIndex 27 = .ok (.iconst 2, 1) := by decide +kernel
theorem d_Mpg_checkIndex_28 : decode b_Mpg_checkIndex 28 = .ok (.iload_n 2, 1) := by decide +kernel
theorem d_Mpg_checkIndex_29 : decode b_Mpg_checkIndex 29 = .ok (.invokevirtual 565, 3) := by decide +kernel
theorem d_Mpg_checkIndex_32 : decode b_Mpg_checkIndex 32 = .ok (.goto 48, 3) := by decide +kernel
theorem d_Mpg_checkIndex_35 : decode b_Mpg_checkIndex 35 = .ok (.iload_n 3, 1) := by decide +kernel
theorem d_Mpg_checkIndex_36 : decode b_Mpg_checkIndex 36 = .ok (.ifCond .lt 23, 3) := by decide +kernel
theorem d_Mpg_checkIndex_39 : decode b_Mpg_checkIndex 39 = .ok (.aload_n 0, 1) := by decide +kernel
theorem d_Mpg_checkIndex_40 : decode b_Mpg_checkIndex 40 = .ok (.getfield 249, 3) := by decide +kernel
theorem d_Mpg_checkIndex_43 : decode b_Mpg_checkIndex 43 = .ok (.iload_n 3, 1) := by decide +kernel
theorem d_Mpg_checkIndex_44 : decode b_Mpg_checkIndex 44 = .ok (.iaload, 1) := by decide +kernel
theorem d_Mpg_checkIndex_45 : decode b_Mpg_checkIndex 45 = .ok (.iconst 2, 1) := by decide +kernel
theorem d_Mpg_checkIndex_46 : decode b_Mpg_checkIndex 46 = .ok (.if_icmp .eq 22, 3) := by decide +kernel
theorem d_Mpg_checkIndex_49 : decode b_Mpg_checkIndex 49 = .ok (.aload_n 0, 1) := by decide +kernel
theorem d_Mpg_checkIndex_50 : decode b_Mpg_checkIndex 50 = .ok (.getfield 249, 3) := by decide +kernel
theorem d_Mpg_checkIndex_53 : decode b_Mpg_checkIndex 53 = .ok (.iload_n 3, 1) := by decide +kernel
theorem d_Mpg_checkIndex_54 : decode b_Mpg_checkIndex 54 = .ok (.iaload, 1) := by decide +kernel
theorem d_Mpg_checkIndex_55 : decode b_Mpg_checkIndex 55 = .ok (.iconst 3, 1) := by decide +kernel
theorem d_Mpg_checkIndex_56 : decode b_Mpg_checkIndex 56 = .ok (.if_icmp .eq 12, 3) := by decide +kernel
theorem d_Mpg_checkIndex_59 : decode b_Mpg_checkIndex 59 = .ok (.aload_n 0, 1) := by decide +kernel
theorem d_Mpg_checkIndex_60 : decode b_Mpg_checkIndex 60 = .ok (.iconst 3, 1) := by decide +kernel
theorem d_Mpg_checkIndex_61 : decode b_Mpg_checkIndex 61 = .ok (.iload_n 2, 1) := by decide +kernel
theorem d_Mpg_checkIndex_62 : decode b_Mpg_checkIndex 62 = .ok (.invokevirtual 565, 3) := by decide +kernel
theorem d_Mpg_checkIndex_65 : decode b_Mpg_checkIndex 65 = .ok (.goto 15, 3) := by decide +kernel
theorem d_Mpg_checkIndex_68 : decode b_Mpg_checkIndex 68 = .ok (.aload_n 0, 1) := by decide +kernel
theorem d_Mpg_checkIndex_69 : decode b_Mpg_checkIndex 69 = .ok (.getfield 219, 3) := by decide +kernel
theorem d_Mpg_checkIndex_72 : decode b_Mpg_checkIndex 72 = .ok (.iload_n 1, 1) := by decide +kernel
theorem d_Mpg_checkIndex_73 : decode b_Mpg_checkIndex 73 = .ok (.aload_n 0, 1) := by decide +kernel
theorem d_Mpg_checkIndex_74 : decode b_Mpg_checkIndex 74 = .ok (.getfield 274, 3) := by decide +kernel
theorem d_Mpg_checkIndex_77 : decode b_Mpg_checkIndex 77 = .ok (.iload_n 3, 1) := by decide +kernel
theorem d_Mpg_checkIndex_78 : decode b_Mpg_checkIndex 78 = .ok (.iaload, 1) := by decide +kernel
theorem d_Mpg_checkIndex_79 : decode b_Mpg_checkIndex 79 = .ok (.iastore, 1) := by decide +kernel
theorem d_Mpg_checkIndex_80 : decode b_Mpg_checkIndex 80 = .ok (.return_, 1) := by decide +kernel
theorem q_Mpg_checkIndex : px_y y_Mpg_checkIndex 1 := by unfold px_y; decide +kernel
set_option maxHeartbeats 4000000 in
set_option maxRecDepth 100000 in
theorem c_mp_checkIndex (l : Launch) (D : va_G) (cs : Nat → ClassId) (ma0 : Nat → Nat → Int32) (ys : Int) (ns : Int) (nf : Int) (kn : Int) (d : Nat) (lo : Int) (hi : Int) (h : Nat) (r : Nat → Nat) (g : Nat → Nat → Option Nat) (tf : Nat → Int32) (ta : Nat → Nat → Int32) (pf : Nat → Int32) (na : Nat → Nat → Int32) (wa : Nat → Nat → Int32) (ca : Nat → Nat → Int32) (ef : Nat → Int32) (ea : Nat → Nat → Int32) (xf : Nat → Int32) (xa : Nat → Nat → Int32) (ma : Nat → Nat → Int32) (cf : Nat → Int32) (p0 : Int32)  (g0 : 0 ≤ lo) (g1 : hi ≤ (pf 13).toInt) (g2 : (pf 13).toInt ≤ 2100) (g3 : (tf 6).toInt ≤ 2049) (g4 : (cf 33).toInt = kn) (g5 : 0 ≤ kn) (g6 : (cf 48).toInt = ns) (g7 : (cf 38).toInt = nf) (g8 : 0 ≤ nf) (g9 : (na 14 p0.toNatClampNeg).toInt = 4) (htk : TkI tf ta) (hfs : FsI (tf 6).toInt (pf 13).toInt na) (hwr : WrV cf (tf 6).toInt) (hkt : KnT (tf 6).toInt ca (cf 33).toInt) (hft : FnT (tf 6).toInt na ca (cf 38).toInt) (hks : KnS ca kn ns ys) (han : Ann na ma0 ma) (hec : EcV ta (tf 6).toInt na ma0 d lo hi p0) : MetV l y_Mpg_checkIndex b_Mpg_checkIndex 4 D cs 8 330 (0) (0) [.ref h, .int p0] [wdP cs h r g tf ta pf na ma wa cf ca ef ea xf xa] (oX (fun A U H => (oP A g U H)) [wdP cs h r g tf ta pf na ma wa cf ca ef ea xf xa]) (fun ps => ∃ (ma' : Nat → Nat → Int32) (cf' : Nat → Int32), (ps = [wdP cs h r g tf ta pf na ma' wa cf' ca ef ea xf xa]) ∧ (KpE cf cf') ∧ (WrV cf' (tf 6).toInt) ∧ ((cf' 33).toInt = (cf 33).toInt) ∧ ((cf' 38).toInt = (cf 38).toInt) ∧ ((cf' 48).toInt = (cf 48).toInt) ∧ ((cf' 46).toInt = (cf 46).toInt) ∧ ((cf' 47).toInt = (cf 47).toInt) ∧ ((cf' 57).toInt = (cf 57).toInt) ∧ (Ann na ma0 ma') ∧ (FrC lo hi ma ma') ∧ (ZSA cf' ca ns ys ma' p0)) := by
  refine px_enter (by decide) (Nat.le_of_ble_eq_true rfl) ?_
  intro p e s m below meth c A ls hAe S hr hlk hnm hA hT hX hw hl
  have hl : lv_has ls 4 [(0, .ref h), (1, .int p0)] := hl
  have lp0 := Int32.le_toInt p0
  have up0 := Int32.toInt_lt p0
  have cst0 : (0 : Int32).toInt = 0 := rfl
  have cst2 : (2 : Int32).toInt = 2 := rfl
  have cst3 : (3 : Int32).toInt = 3 := rfl
  have hX : (fun A U H => (oP A g U H)) A s s.heap := by rw [hAe]; exact hX
  have hP := hX
  have hZ := hP.1
  have hF0 := hP.2.1
  have hke : KpE cf cf := KpE.rf
  have hfc : FrC lo hi ma ma := FrC.rf
  have hwr0 := hwr.1
  have hk11 := hkt.1
  have hf11 := hft.1
  have hec_p0 := hec
  have hrg := EcV.rng hec
  refine lv_aload_n S.x S.b d_Mpg_checkIndex_0 rfl (lv_at hl 0 rfl) ?_
  refine px_get S k_Mpg hT hw 0 0 15 (v := .ref (r 15)) rfl rfl rfl (by decide) m9_239 d_Mpg_checkIndex_1 ?_
  refine lv_iload_n S.x S.b d_Mpg_checkIndex_4 rfl (lv_at hl 1 rfl) ?_
  refine px_iald S hT hw 0 11 (n := 2100) (f := (na 15)) rfl gp_15 (x := p0) (vp_in_iff.mpr (by first | exact oz_a7e05de1cd hrg.2.2 hrg.2.1 g1 g2 | (constructor <;> omega))) d_Mpg_checkIndex_5 ?_
  refine lv_topi (fun z1 ez1 => ?_)
  have lz1 := Int32.le_toInt z1
  have uz1 := Int32.toInt_lt z1
  have rz1 := EcV.tok hec_p0 ez1
  refine lv_istore_n (lv' := [(2, .int z1), (0, .ref h), (1, .int p0)]) S.x S.b d_Mpg_checkIndex_6 rfl hl (by decide) rfl (fun ls hl => ?_)
  refine lv_aload_n S.x S.b d_Mpg_checkIndex_7 rfl (lv_at hl 1 rfl) ?_
  refine lv_iload_n S.x S.b d_Mpg_checkIndex_8 rfl (lv_at hl 0 rfl) ?_
  refine lv_iconst (v := 0) S.x S.b d_Mpg_checkIndex_9 (by decide) ?_
  refine px_calli (pr := []) (px_runV (As := [.int z1, .int 0]) (rest := []) S (c_mp_find l D cs h r g tf ta pf na ma wa cf ca ef ea xf xa z1 0  (show 0 ≤ z1.toInt from by first | exact rz1.1 | omega) (show z1.toInt < (tf 6).toInt from by first | exact oz_7fe81129bf rz1.2 | omega) (show (tf 6).toInt ≤ 2049 from by first | exact g3 | omega) (show 0 ≤ (0 : Int) from by first | decide | omega) (show 0 ≤ (cf 33).toInt from by first | exact oz_f3ebed1ad0 g4 g5 | omega) htk (KnT.eq hkt (by first | with_reducible rfl | with_reducible assumption | omega)) _) hT (pr := []) (pcs := [wdP cs h r g tf ta pf na ma wa cf ca ef ea xf xa]) hw px_X.tt (px_recv hT hw 0 0 rfl rfl rfl) m12_181 m12_178 m12_180 ms_11_14 m1_21 q_Mpg_find ⟨Nat.le_of_ble_eq_true rfl, Nat.le_of_ble_eq_true rfl⟩ hl.1 rfl (Nat.le_of_ble_eq_true rfl) d_Mpg_checkIndex_10 ⟨Nat.le_of_ble_eq_true rfl, Nat.le_of_ble_eq_true rfl⟩) hw hA (fun v3 p2 H locs hp2 hw => ?_)
  obtain ⟨rfl, e4, e5, e6, e7⟩ := hp2
  have e4 : -1 ≤ v3.toInt := e4
  have e5 : v3.toInt < (cf 33).toInt := e5
  have e6 : 0 ≤ v3.toInt → (0 : Int) ≤ v3.toInt := e6
  have e7 : FndV ta ca (cf 33).toInt z1 (0 : Int) v3.toInt := e7
  have hfd := e7
  have hw : pw D A s.heap H locs [wdP cs h r g tf ta pf na ma wa cf ca ef ea xf xa] := hw
  have lv3 := Int32.le_toInt v3
  have uv3 := Int32.toInt_lt v3
  refine lv_istore_n (lv' := [(3, .int v3), (2, .int z1), (0, .ref h), (1, .int p0)]) S.x S.b d_Mpg_checkIndex_13 rfl hl (by decide) rfl (fun ls hl => ?_)
  refine lv_iload_n S.x S.b d_Mpg_checkIndex_14 rfl (lv_at hl 0 rfl) ?_
  refine lv_if_ge (tgt := 35) S.x S.b d_Mpg_checkIndex_15 (by decide) (fun c8 => ?_) (fun c8 => ?_)
  · have nc8 : (0 : Int) ≤ v3.toInt := (i_le (x := 0) (y := v3)).mp c8
    refine lv_iload_n S.x S.b d_Mpg_checkIndex_35 rfl (lv_at hl 0 rfl) ?_
    refine lv_if_lt (tgt := 59) S.x S.b d_Mpg_checkIndex_36 (by decide) (fun c9 => ?_) (fun c9 => ?_)
    · have nc9 : v3.toInt < (0 : Int) := (i_lt (x := v3) (y := 0)).mp c9
      refine lv_aload_n S.x S.b d_Mpg_checkIndex_59 rfl (lv_at hl 2 rfl) ?_
      refine lv_iconst (v := 3) S.x S.b d_Mpg_checkIndex_60 (by decide) ?_
      refine lv_iload_n S.x S.b d_Mpg_checkIndex_61 rfl (lv_at hl 1 rfl) ?_
      refine px_callv (pr := []) (px_runV (As := [.int 3, .int z1]) (rest := []) S (c_mp_bad l D cs h r g tf ta pf na ma wa ca ef ea xf xa cf 3 z1  (show 1 ≤ (3 : Int) from by first | decide | omega) (show 0 ≤ z1.toInt from by first | exact rz1.1 | omega) (show z1.toInt < (tf 6).toInt from by first | exact oz_7fe81129bf rz1.2 | omega) htk hwr _) hT (pr := []) (pcs := [wdP cs h r g tf ta pf na ma wa cf ca ef ea xf xa]) hw px_X.tt (px_recv hT hw 0 0 rfl rfl rfl) m12_173 m12_170 m12_172 ms_11_12 m1_21 q_Mpg_bad ⟨Nat.le_of_ble_eq_true rfl, Nat.le_of_ble_eq_true rfl⟩ hl.1 rfl (Nat.le_of_ble_eq_true rfl) d_Mpg_checkIndex_62 ⟨Nat.le_of_ble_eq_true rfl, Nat.le_of_ble_eq_true rfl⟩) hw hA (fun p12 H locs hp12 hw => ?_)
      obtain ⟨cf11, rfl, e14, e15, e16, e17, e18, e19, e20, e21, e22, e23, e24, e25, e26, e27, e28, e29, e30, e31, e32⟩ := hp12
      have e14 : KpE cf cf11 := e14
      have hke := (hke).tr e14
      have hkz_e14 := e14.2
      have e15 : WrV cf11 (tf 6).toInt := e15
      have hwr := e15
      have hw0_e15 := hwr.1
      have e16 : 1 ≤ (cf11 30).toInt := e16
      have e17 : (cf11 33).toInt = (cf 33).toInt := e17
      have e18 : (cf11 38).toInt = (cf 38).toInt := e18
      have e19 : (cf11 48).toInt = (cf 48).toInt := e19
      have e20 : (cf11 46).toInt = (cf 46).toInt := e20
      have e21 : (cf11 47).toInt = (cf 47).toInt := e21
      have e22 : (cf11 57).toInt = (cf 57).toInt := e22
      have e23 : (cf11 37).toInt = (cf 37).toInt := e23
      have e24 : (cf11 42).toInt = (cf 42).toInt := e24
      have e25 : (cf11 43).toInt = (cf 43).toInt := e25
      have e26 : (cf11 44).toInt = (cf 44).toInt := e26
      have e27 : (cf11 45).toInt = (cf 45).toInt := e27
      have e28 : (cf11 54).toInt = (cf 54).toInt := e28
      have e29 : (cf11 55).toInt = (cf 55).toInt := e29
      have e30 : (cf11 58).toInt = (cf 58).toInt := e30
      have e31 : (cf11 59).toInt = (cf 59).toInt := e31
      have e32 : (cf11 41).toInt = (cf 41).toInt := e32
      have hw : pw D A s.heap H locs [wdP cs h r g tf ta pf na ma wa cf11 ca ef ea xf xa] := hw
      refine lv_goto (tgt := 80) S.x S.b d_Mpg_checkIndex_65 (by decide) ?_
      exact px_vret S hr hlk hAe hw (Nat.le_of_ble_eq_true rfl) (Nat.le_of_ble_eq_true rfl) (⟨ma, cf11, rfl, (show KpE cf cf11 from hke), (show WrV cf11 (tf 6).toInt from hwr), (show (cf11 33).toInt = (cf 33).toInt from by first | exact e17 | omega), (show (cf11 38).toInt = (cf 38).toInt from by first | exact e18 | omega), (show (cf11 48).toInt = (cf 48).toInt from by first | exact e19 | omega), (show (cf11 46).toInt = (cf 46).toInt from by first | exact e20 | omega), (show (cf11 47).toInt = (cf 47).toInt from by first | exact e21 | omega), (show (cf11 57).toInt = (cf 57).toInt from by first | exact e22 | omega), (show Ann na ma0 ma from han), (show FrC lo hi ma ma from hfc), (show ZSA cf11 ca ns ys ma p0 from (zr_no (by first | with_reducible rfl | with_reducible assumption | omega)))⟩) d_Mpg_checkIndex_80
    · have nc9 : ¬ v3.toInt < (0 : Int) := mt (i_lt (x := v3) (y := 0)).mpr c9
      refine lv_aload_n S.x S.b d_Mpg_checkIndex_39 rfl (lv_at hl 2 rfl) ?_
      refine px_get S k_Mpg hT hw 0 0 35 (v := .ref (r 35)) rfl rfl rfl (by decide) m10_24 d_Mpg_checkIndex_40 ?_
      refine lv_iload_n S.x S.b d_Mpg_checkIndex_43 rfl (lv_at hl 0 rfl) ?_
      refine px_iald S hT hw 0 24 (n := 1100) (f := (ca 35)) rfl gp_35 (x := v3) (vp_in_iff.mpr (by first | exact oz_38f67f5f3e nc8 e5 hk11 | (constructor <;> omega))) d_Mpg_checkIndex_44 ?_
      refine lv_topi (fun z33 ez33 => ?_)
      have lz33 := Int32.le_toInt z33
      have uz33 := Int32.toInt_lt z33
      refine lv_iconst (v := 2) S.x S.b d_Mpg_checkIndex_45 (by decide) ?_
      refine lv_icmp_eq (tgt := 68) S.x S.b d_Mpg_checkIndex_46 (by decide) (fun c34 => ?_) (fun c34 => ?_)
      · have nc34 : z33.toInt = (2 : Int) := (i_eq (x := z33) (y := 2)).mp c34
        refine lv_aload_n S.x S.b d_Mpg_checkIndex_68 rfl (lv_at hl 2 rfl) ?_
        refine px_get S k_Mpg hT hw 0 0 18 (v := .ref (r 18)) rfl rfl rfl (by decide) m10_3 d_Mpg_checkIndex_69 ?_
        refine lv_iload_n S.x S.b d_Mpg_checkIndex_72 rfl (lv_at hl 3 rfl) ?_
        refine lv_aload_n S.x S.b d_Mpg_checkIndex_73 rfl (lv_at hl 2 rfl) ?_
        refine px_get S k_Mpg hT hw 0 0 53 (v := .ref (r 53)) rfl rfl rfl (by decide) m10_48 d_Mpg_checkIndex_74 ?_
        refine lv_iload_n S.x S.b d_Mpg_checkIndex_77 rfl (lv_at hl 0 rfl) ?_
        refine px_iald S hT hw 0 32 (n := 1100) (f := (ca 53)) rfl gp_53 (x := v3) (vp_in_iff.mpr (by first | exact oz_38f67f5f3e nc8 e5 hk11 | (constructor <;> omega))) d_Mpg_checkIndex_78 ?_
        refine lv_topi (fun z35 ez35 => ?_)
        have lz35 := Int32.le_toInt z35
        have uz35 := Int32.toInt_lt z35
        have hkn := KnS.at hks (k := v3) (by first | with_reducible rfl | with_reducible assumption | omega) (by first | with_reducible rfl | with_reducible assumption | omega) ez33 ez35
        refine px_iast S hT hw 0 14 (n := 2100) (f := (ma 18)) (x := p0) (y := z35) rfl gp_18 (vp_in_iff.mpr (by constructor <;> omega)) d_Mpg_checkIndex_79 (w' := wdP cs h r g tf ta pf na (va_up ma 18 (upd (ma 18) p0.toNatClampNeg z35)) wa cf ca ef ea xf xa) (ps' := [wdP cs h r g tf ta pf na (va_up ma 18 (upd (ma 18) p0.toNatClampNeg z35)) wa cf ca ef ea xf xa]) sp_18 rfl (fun H locs hw => ?_)
        obtain ⟨ma36, hu_ma36⟩ : ∃ y : Nat → Nat → Int32, y = va_up ma 18 (upd (ma 18) p0.toNatClampNeg z35) := ⟨_, rfl⟩
        have hw : pw D A s.heap _ _ [wdP cs h r g tf ta pf na ma36 wa cf ca ef ea xf xa] := (by rw [hu_ma36]; exact hw)
        have hf1_ma36 : FrC p0.toInt (p0.toInt + 1) ma ma36 := (by rw [hu_ma36]; exact FrC.w FrC.rf (by first | with_reducible rfl | with_reducible assumption | omega) (by first | with_reducible rfl | with_reducible assumption | omega) (by first | with_reducible rfl | with_reducible assumption | omega))
        have han : Ann na ma0 ma36 := (by rw [hu_ma36]; exact Ann.w18 han (by first | with_reducible rfl | with_reducible assumption | omega))
        have hfc := hfc.tr hf1_ma36 (by first | with_reducible rfl | with_reducible assumption | omega) (by first | with_reducible rfl | with_reducible assumption | omega)
        have hv_18_p0 : ma36 18 p0.toNatClampNeg = z35 := (by rw [hu_ma36, va_up_s, pk_us])
        have hnhv_18_p0 : (ma36 18 p0.toNatClampNeg).toInt = z35.toInt := (by rw [hv_18_p0])
        exact px_vret S hr hlk hAe hw (Nat.le_of_ble_eq_true rfl) (Nat.le_of_ble_eq_true rfl) (⟨ma36, cf, rfl, (show KpE cf cf from hke), (show WrV cf (tf 6).toInt from hwr), (show (cf 33).toInt = (cf 33).toInt from rfl), (show (cf 38).toInt = (cf 38).toInt from rfl), (show (cf 48).toInt = (cf 48).toInt from rfl), (show (cf 46).toInt = (cf 46).toInt from rfl), (show (cf 47).toInt = (cf 47).toInt from rfl), (show (cf 57).toInt = (cf 57).toInt from rfl), (show Ann na ma0 ma36 from han), (show FrC lo hi ma ma36 from hfc), (show ZSA cf ca ns ys ma36 p0 from (zsa_mk hv_18_p0 hkn (by first | with_reducible rfl | with_reducible assumption | omega)))⟩) d_Mpg_checkIndex_80
      · have nc34 : ¬ z33.toInt = (2 : Int) := mt (i_eq (x := z33) (y := 2)).mpr c34
        refine lv_aload_n S.x S.b d_Mpg_checkIndex_49 rfl (lv_at hl 2 rfl) ?_
        refine px_get S k_Mpg hT hw 0 0 35 (v := .ref (r 35)) rfl rfl rfl (by decide) m10_24 d_Mpg_checkIndex_50 ?_
        refine lv_iload_n S.x S.b d_Mpg_checkIndex_53 rfl (lv_at hl 0 rfl) ?_
        refine px_iald S hT hw 0 24 (n := 1100) (f := (ca 35)) rfl gp_35 (x := v3) (vp_in_iff.mpr (by first | exact oz_38f67f5f3e nc8 e5 hk11 | (constructor <;> omega))) d_Mpg_checkIndex_54 ?_
        refine lv_topi (fun z37 ez37 => ?_)
        have lz37 := Int32.le_toInt z37
        have uz37 := Int32.toInt_lt z37
        refine lv_iconst (v := 3) S.x S.b d_Mpg_checkIndex_55 (by decide) ?_
        refine lv_icmp_eq (tgt := 68) S.x S.b d_Mpg_checkIndex_56 (by decide) (fun c38 => ?_) (fun c38 => ?_)
        · have nc38 : z37.toInt = (3 : Int) := (i_eq (x := z37) (y := 3)).mp c38
          refine lv_aload_n S.x S.b d_Mpg_checkIndex_68 rfl (lv_at hl 2 rfl) ?_
          refine px_get S k_Mpg hT hw 0 0 18 (v := .ref (r 18)) rfl rfl rfl (by decide) m10_3 d_Mpg_checkIndex_69 ?_
          refine lv_iload_n S.x S.b d_Mpg_checkIndex_72 rfl (lv_at hl 3 rfl) ?_
          refine lv_aload_n S.x S.b d_Mpg_checkIndex_73 rfl (lv_at hl 2 rfl) ?_
          refine px_get S k_Mpg hT hw 0 0 53 (v := .ref (r 53)) rfl rfl rfl (by decide) m10_48 d_Mpg_checkIndex_74 ?_
          refine lv_iload_n S.x S.b d_Mpg_checkIndex_77 rfl (lv_at hl 0 rfl) ?_
          refine px_iald S hT hw 0 32 (n := 1100) (f := (ca 53)) rfl gp_53 (x := v3) (vp_in_iff.mpr (by first | exact oz_38f67f5f3e nc8 e5 hk11 | (constructor <;> omega))) d_Mpg_checkIndex_78 ?_
          refine lv_topi (fun z39 ez39 => ?_)
          have lz39 := Int32.le_toInt z39
          have uz39 := Int32.toInt_lt z39
          have hkn := KnS.at hks (k := v3) (by first | with_reducible rfl | with_reducible assumption | omega) (by first | with_reducible rfl | with_reducible assumption | omega) ez37 ez39
          refine px_iast S hT hw 0 14 (n := 2100) (f := (ma 18)) (x := p0) (y := z39) rfl gp_18 (vp_in_iff.mpr (by constructor <;> omega)) d_Mpg_checkIndex_79 (w' := wdP cs h r g tf ta pf na (va_up ma 18 (upd (ma 18) p0.toNatClampNeg z39)) wa cf ca ef ea xf xa) (ps' := [wdP cs h r g tf ta pf na (va_up ma 18 (upd (ma 18) p0.toNatClampNeg z39)) wa cf ca ef ea xf xa]) sp_18 rfl (fun H locs hw => ?_)
          obtain ⟨ma40, hu_ma40⟩ : ∃ y : Nat → Nat → Int32, y = va_up ma 18 (upd (ma 18) p0.toNatClampNeg z39) := ⟨_, rfl⟩
          have hw : pw D A s.heap _ _ [wdP cs h r g tf ta pf na ma40 wa cf ca ef ea xf xa] := (by rw [hu_ma40]; exact hw)
          have hf1_ma40 : FrC p0.toInt (p0.toInt + 1) ma ma40 := (by rw [hu_ma40]; exact FrC.w FrC.rf (by first | with_reducible rfl | with_reducible assumption | omega) (by first | with_reducible rfl | with_reducible assumption | omega) (by first | with_reducible rfl | with_reducible assumption | omega))
          have han : Ann na ma0 ma40 := (by rw [hu_ma40]; exact Ann.w18 han (by first | with_reducible rfl | with_reducible assumption | omega))
          have hfc := hfc.tr hf1_ma40 (by first | with_reducible rfl | with_reducible assumption | omega) (by first | with_reducible rfl | with_reducible assumption | omega)
          have hv_18_p0 : ma40 18 p0.toNatClampNeg = z39 := (by rw [hu_ma40, va_up_s, pk_us])
          have hnhv_18_p0 : (ma40 18 p0.toNatClampNeg).toInt = z39.toInt := (by rw [hv_18_p0])
          exact px_vret S hr hlk hAe hw (Nat.le_of_ble_eq_true rfl) (Nat.le_of_ble_eq_true rfl) (⟨ma40, cf, rfl, (show KpE cf cf from hke), (show WrV cf (tf 6).toInt from hwr), (show (cf 33).toInt = (cf 33).toInt from rfl), (show (cf 38).toInt = (cf 38).toInt from rfl), (show (cf 48).toInt = (cf 48).toInt from rfl), (show (cf 46).toInt = (cf 46).toInt from rfl), (show (cf 47).toInt = (cf 47).toInt from rfl), (show (cf 57).toInt = (cf 57).toInt from rfl), (show Ann na ma0 ma40 from han), (show FrC lo hi ma ma40 from hfc), (show ZSA cf ca ns ys ma40 p0 from (zsa_mk hv_18_p0 hkn (by first | with_reducible rfl | with_reducible assumption | omega)))⟩) d_Mpg_checkIndex_80
        · have nc38 : ¬ z37.toInt = (3 : Int) := mt (i_eq (x := z37) (y := 3)).mpr c38
          refine lv_aload_n S.x S.b d_Mpg_checkIndex_59 rfl (lv_at hl 2 rfl) ?_
          refine lv_iconst (v := 3) S.x S.b d_Mpg_checkIndex_60 (by decide) ?_
          refine lv_iload_n S.x S.b d_Mpg_checkIndex_61 rfl (lv_at hl 1 rfl) ?_
          refine px_callv (pr := []) (px_runV (As := [.int 3, .int z1]) (rest := []) S (c_mp_bad l D cs h r g tf ta pf na ma wa ca ef ea xf xa cf 3 z1  (show 1 ≤ (3 : Int) from by first | decide | omega) (show 0 ≤ z1.toInt from by first | exact rz1.1 | omega) (show z1.toInt < (tf 6).toInt from by first | exact oz_7fe81129bf rz1.2 | omega) htk hwr _) hT (pr := []) (pcs := [wdP cs h r g tf ta pf na ma wa cf ca ef ea xf xa]) hw px_X.tt (px_recv hT hw 0 0 rfl rfl rfl) m12_173 m12_170 m12_172 ms_11_12 m1_21 q_Mpg_bad ⟨Nat.le_of_ble_eq_true rfl, Nat.le_of_ble_eq_true rfl⟩ hl.1 rfl (Nat.le_of_ble_eq_true rfl) d_Mpg_checkIndex_62 ⟨Nat.le_of_ble_eq_true rfl, Nat.le_of_ble_eq_true rfl⟩) hw hA (fun p43 H locs hp43 hw => ?_)
          obtain ⟨cf42, rfl, e45, e46, e47, e48, e49, e50, e51, e52, e53, e54, e55, e56, e57, e58, e59, e60, e61, e62, e63⟩ := hp43
          have e45 : KpE cf cf42 := e45
          have hke := (hke).tr e45
          have hkz_e45 := e45.2
          have e46 : WrV cf42 (tf 6).toInt := e46
          have hwr := e46
          have hw0_e46 := hwr.1
          have e47 : 1 ≤ (cf42 30).toInt := e47
          have e48 : (cf42 33).toInt = (cf 33).toInt := e48
          have e49 : (cf42 38).toInt = (cf 38).toInt := e49
          have e50 : (cf42 48).toInt = (cf 48).toInt := e50
          have e51 : (cf42 46).toInt = (cf 46).toInt := e51
          have e52 : (cf42 47).toInt = (cf 47).toInt := e52
          have e53 : (cf42 57).toInt = (cf 57).toInt := e53
          have e54 : (cf42 37).toInt = (cf 37).toInt := e54
          have e55 : (cf42 42).toInt = (cf 42).toInt := e55
          have e56 : (cf42 43).toInt = (cf 43).toInt := e56
          have e57 : (cf42 44).toInt = (cf 44).toInt := e57
          have e58 : (cf42 45).toInt = (cf 45).toInt := e58
          have e59 : (cf42 54).toInt = (cf 54).toInt := e59
          have e60 : (cf42 55).toInt = (cf 55).toInt := e60
          have e61 : (cf42 58).toInt = (cf 58).toInt := e61
          have e62 : (cf42 59).toInt = (cf 59).toInt := e62
          have e63 : (cf42 41).toInt = (cf 41).toInt := e63
          have hw : pw D A s.heap H locs [wdP cs h r g tf ta pf na ma wa cf42 ca ef ea xf xa] := hw
          refine lv_goto (tgt := 80) S.x S.b d_Mpg_checkIndex_65 (by decide) ?_
          exact px_vret S hr hlk hAe hw (Nat.le_of_ble_eq_true rfl) (Nat.le_of_ble_eq_true rfl) (⟨ma, cf42, rfl, (show KpE cf cf42 from hke), (show WrV cf42 (tf 6).toInt from hwr), (show (cf42 33).toInt = (cf 33).toInt from by first | exact e48 | omega), (show (cf42 38).toInt = (cf 38).toInt from by first | exact e49 | omega), (show (cf42 48).toInt = (cf 48).toInt from by first | exact e50 | omega), (show (cf42 46).toInt = (cf 46).toInt from by first | exact e51 | omega), (show (cf42 47).toInt = (cf 47).toInt from by first | exact e52 | omega), (show (cf42 57).toInt = (cf 57).toInt from by first | exact e53 | omega), (show Ann na ma0 ma from han), (show FrC lo hi ma ma from hfc), (show ZSA cf42 ca ns ys ma p0 from (zr_no (by first | with_reducible rfl | with_reducible assumption | omega)))⟩) d_Mpg_checkIndex_80
  · have nc8 : ¬ (0 : Int) ≤ v3.toInt := mt (i_le (x := 0) (y := v3)).mpr c8
    refine lv_aload_n S.x S.b d_Mpg_checkIndex_18 rfl (lv_at hl 2 rfl) ?_
    refine lv_iload_n S.x S.b d_Mpg_checkIndex_19 rfl (lv_at hl 1 rfl) ?_
    refine px_calli (pr := []) (px_runV (As := [.int z1]) (rest := []) S (c_mp_isFunction l D cs h r g tf ta pf na ma wa cf ca ef ea xf xa z1  (show 0 ≤ z1.toInt from by first | exact rz1.1 | omega) (show z1.toInt < (tf 6).toInt from by first | exact oz_7fe81129bf rz1.2 | omega) (show (tf 6).toInt ≤ 2049 from by first | exact g3 | omega) (show 0 ≤ (cf 38).toInt from by first | exact oz_f3ebed1ad0 g7 g8 | omega) htk (FnT.eq hft (by first | with_reducible rfl | with_reducible assumption | omega)) _) hT (pr := []) (pcs := [wdP cs h r g tf ta pf na ma wa cf ca ef ea xf xa]) hw (oX_call (P := (fun A U H => (oP A g U H))) (pr := []) oG_P hw hA hP) (px_recv hT hw 0 0 rfl rfl rfl) m12_185 m12_182 m12_184 ms_11_15 m1_21 q_Mpg_isFunction ⟨Nat.le_of_ble_eq_true rfl, Nat.le_of_ble_eq_true rfl⟩ hl.1 rfl (Nat.le_of_ble_eq_true rfl) d_Mpg_checkIndex_20 ⟨Nat.le_of_ble_eq_true rfl, Nat.le_of_ble_eq_true rfl⟩) hw hA (fun v65 p64 H locs hp64 hw => ?_)
    obtain ⟨rfl, e66⟩ := hp64
    have e66 := z_rng e66
    have hw : pw D A s.heap H locs [wdP cs h r g tf ta pf na ma wa cf ca ef ea xf xa] := hw
    have lv65 := Int32.le_toInt v65
    have uv65 := Int32.toInt_lt v65
    refine lv_if_ne (tgt := 35) S.x S.b d_Mpg_checkIndex_23 (by decide) (fun c67 => ?_) (fun c67 => ?_)
    · have nc67 : ¬ v65.toInt = (0 : Int) := mt (i_eq (x := v65) (y := 0)).mpr c67
      refine lv_iload_n S.x S.b d_Mpg_checkIndex_35 rfl (lv_at hl 0 rfl) ?_
      refine lv_if_lt (tgt := 59) S.x S.b d_Mpg_checkIndex_36 (by decide) (fun c68 => ?_) (fun c68 => ?_)
      · have nc68 : v3.toInt < (0 : Int) := (i_lt (x := v3) (y := 0)).mp c68
        refine lv_aload_n S.x S.b d_Mpg_checkIndex_59 rfl (lv_at hl 2 rfl) ?_
        refine lv_iconst (v := 3) S.x S.b d_Mpg_checkIndex_60 (by decide) ?_
        refine lv_iload_n S.x S.b d_Mpg_checkIndex_61 rfl (lv_at hl 1 rfl) ?_
        refine px_callv (pr := []) (px_runV (As := [.int 3, .int z1]) (rest := []) S (c_mp_bad l D cs h r g tf ta pf na ma wa ca ef ea xf xa cf 3 z1  (show 1 ≤ (3 : Int) from by first | decide | omega) (show 0 ≤ z1.toInt from by first | exact rz1.1 | omega) (show z1.toInt < (tf 6).toInt from by first | exact oz_7fe81129bf rz1.2 | omega) htk hwr _) hT (pr := []) (pcs := [wdP cs h r g tf ta pf na ma wa cf ca ef ea xf xa]) hw px_X.tt (px_recv hT hw 0 0 rfl rfl rfl) m12_173 m12_170 m12_172 ms_11_12 m1_21 q_Mpg_bad ⟨Nat.le_of_ble_eq_true rfl, Nat.le_of_ble_eq_true rfl⟩ hl.1 rfl (Nat.le_of_ble_eq_true rfl) d_Mpg_checkIndex_62 ⟨Nat.le_of_ble_eq_true rfl, Nat.le_of_ble_eq_true rfl⟩) hw hA (fun p71 H locs hp71 hw => ?_)
        obtain ⟨cf70, rfl, e73, e74, e75, e76, e77, e78, e79, e80, e81, e82, e83, e84, e85, e86, e87, e88, e89, e90, e91⟩ := hp71
        have e73 : KpE cf cf70 := e73
        have hke := (hke).tr e73
        have hkz_e73 := e73.2
        have e74 : WrV cf70 (tf 6).toInt := e74
        have hwr := e74
        have hw0_e74 := hwr.1
        have e75 : 1 ≤ (cf70 30).toInt := e75
        have e76 : (cf70 33).toInt = (cf 33).toInt := e76
        have e77 : (cf70 38).toInt = (cf 38).toInt := e77
        have e78 : (cf70 48).toInt = (cf 48).toInt := e78
        have e79 : (cf70 46).toInt = (cf 46).toInt := e79
        have e80 : (cf70 47).toInt = (cf 47).toInt := e80
        have e81 : (cf70 57).toInt = (cf 57).toInt := e81
        have e82 : (cf70 37).toInt = (cf 37).toInt := e82
        have e83 : (cf70 42).toInt = (cf 42).toInt := e83
        have e84 : (cf70 43).toInt = (cf 43).toInt := e84
        have e85 : (cf70 44).toInt = (cf 44).toInt := e85
        have e86 : (cf70 45).toInt = (cf 45).toInt := e86
        have e87 : (cf70 54).toInt = (cf 54).toInt := e87
        have e88 : (cf70 55).toInt = (cf 55).toInt := e88
        have e89 : (cf70 58).toInt = (cf 58).toInt := e89
        have e90 : (cf70 59).toInt = (cf 59).toInt := e90
        have e91 : (cf70 41).toInt = (cf 41).toInt := e91
        have hw : pw D A s.heap H locs [wdP cs h r g tf ta pf na ma wa cf70 ca ef ea xf xa] := hw
        refine lv_goto (tgt := 80) S.x S.b d_Mpg_checkIndex_65 (by decide) ?_
        exact px_vret S hr hlk hAe hw (Nat.le_of_ble_eq_true rfl) (Nat.le_of_ble_eq_true rfl) (⟨ma, cf70, rfl, (show KpE cf cf70 from hke), (show WrV cf70 (tf 6).toInt from hwr), (show (cf70 33).toInt = (cf 33).toInt from by first | exact e76 | omega), (show (cf70 38).toInt = (cf 38).toInt from by first | exact e77 | omega), (show (cf70 48).toInt = (cf 48).toInt from by first | exact e78 | omega), (show (cf70 46).toInt = (cf 46).toInt from by first | exact e79 | omega), (show (cf70 47).toInt = (cf 47).toInt from by first | exact e80 | omega), (show (cf70 57).toInt = (cf 57).toInt from by first | exact e81 | omega), (show Ann na ma0 ma from han), (show FrC lo hi ma ma from hfc), (show ZSA cf70 ca ns ys ma p0 from (zr_no (by first | with_reducible rfl | with_reducible assumption | omega)))⟩) d_Mpg_checkIndex_80
      · have nc68 : ¬ v3.toInt < (0 : Int) := mt (i_lt (x := v3) (y := 0)).mpr c68
        refine lv_aload_n S.x S.b d_Mpg_checkIndex_39 rfl (lv_at hl 2 rfl) ?_
        refine px_get S k_Mpg hT hw 0 0 35 (v := .ref (r 35)) rfl rfl rfl (by decide) m10_24 d_Mpg_checkIndex_40 ?_
        refine lv_iload_n S.x S.b d_Mpg_checkIndex_43 rfl (lv_at hl 0 rfl) ?_
        refine px_iald S hT hw 0 24 (n := 1100) (f := (ca 35)) rfl gp_35 (x := v3) (vp_in_iff.mpr (by first | exact oz_f8683445ad nc68 nc8 | (constructor <;> omega))) d_Mpg_checkIndex_44 ?_
        refine lv_topi (fun z92 ez92 => ?_)
        have lz92 := Int32.le_toInt z92
        have uz92 := Int32.toInt_lt z92
        refine lv_iconst (v := 2) S.x S.b d_Mpg_checkIndex_45 (by decide) ?_
        refine lv_icmp_eq (tgt := 68) S.x S.b d_Mpg_checkIndex_46 (by decide) (fun c93 => ?_) (fun c93 => ?_)
        · have nc93 : z92.toInt = (2 : Int) := (i_eq (x := z92) (y := 2)).mp c93
          refine lv_aload_n S.x S.b d_Mpg_checkIndex_68 rfl (lv_at hl 2 rfl) ?_
          refine px_get S k_Mpg hT hw 0 0 18 (v := .ref (r 18)) rfl rfl rfl (by decide) m10_3 d_Mpg_checkIndex_69 ?_
          refine lv_iload_n S.x S.b d_Mpg_checkIndex_72 rfl (lv_at hl 3 rfl) ?_
          refine lv_aload_n S.x S.b d_Mpg_checkIndex_73 rfl (lv_at hl 2 rfl) ?_
          refine px_get S k_Mpg hT hw 0 0 53 (v := .ref (r 53)) rfl rfl rfl (by decide) m10_48 d_Mpg_checkIndex_74 ?_
          refine lv_iload_n S.x S.b d_Mpg_checkIndex_77 rfl (lv_at hl 0 rfl) ?_
          refine px_iald S hT hw 0 32 (n := 1100) (f := (ca 53)) rfl gp_53 (x := v3) (vp_in_iff.mpr (by first | exact oz_f8683445ad nc68 nc8 | (constructor <;> omega))) d_Mpg_checkIndex_78 ?_
          refine lv_topi (fun z94 ez94 => ?_)
          have lz94 := Int32.le_toInt z94
          have uz94 := Int32.toInt_lt z94
          have hkn := KnS.at hks (k := v3) (by first | with_reducible rfl | with_reducible assumption | omega) (by first | with_reducible rfl | with_reducible assumption | omega) ez92 ez94
          refine px_iast S hT hw 0 14 (n := 2100) (f := (ma 18)) (x := p0) (y := z94) rfl gp_18 (vp_in_iff.mpr (by constructor <;> omega)) d_Mpg_checkIndex_79 (w' := wdP cs h r g tf ta pf na (va_up ma 18 (upd (ma 18) p0.toNatClampNeg z94)) wa cf ca ef ea xf xa) (ps' := [wdP cs h r g tf ta pf na (va_up ma 18 (upd (ma 18) p0.toNatClampNeg z94)) wa cf ca ef ea xf xa]) sp_18 rfl (fun H locs hw => ?_)
          obtain ⟨ma95, hu_ma95⟩ : ∃ y : Nat → Nat → Int32, y = va_up ma 18 (upd (ma 18) p0.toNatClampNeg z94) := ⟨_, rfl⟩
          have hw : pw D A s.heap _ _ [wdP cs h r g tf ta pf na ma95 wa cf ca ef ea xf xa] := (by rw [hu_ma95]; exact hw)
          have hf1_ma95 : FrC p0.toInt (p0.toInt + 1) ma ma95 := (by rw [hu_ma95]; exact FrC.w FrC.rf (by first | with_reducible rfl | with_reducible assumption | omega) (by first | with_reducible rfl | with_reducible assumption | omega) (by first | with_reducible rfl | with_reducible assumption | omega))
          have han : Ann na ma0 ma95 := (by rw [hu_ma95]; exact Ann.w18 han (by first | with_reducible rfl | with_reducible assumption | omega))
          have hfc := hfc.tr hf1_ma95 (by first | with_reducible rfl | with_reducible assumption | omega) (by first | with_reducible rfl | with_reducible assumption | omega)
          have hv_18_p0 : ma95 18 p0.toNatClampNeg = z94 := (by rw [hu_ma95, va_up_s, pk_us])
          have hnhv_18_p0 : (ma95 18 p0.toNatClampNeg).toInt = z94.toInt := (by rw [hv_18_p0])
          exact px_vret S hr hlk hAe hw (Nat.le_of_ble_eq_true rfl) (Nat.le_of_ble_eq_true rfl) (⟨ma95, cf, rfl, (show KpE cf cf from hke), (show WrV cf (tf 6).toInt from hwr), (show (cf 33).toInt = (cf 33).toInt from rfl), (show (cf 38).toInt = (cf 38).toInt from rfl), (show (cf 48).toInt = (cf 48).toInt from rfl), (show (cf 46).toInt = (cf 46).toInt from rfl), (show (cf 47).toInt = (cf 47).toInt from rfl), (show (cf 57).toInt = (cf 57).toInt from rfl), (show Ann na ma0 ma95 from han), (show FrC lo hi ma ma95 from hfc), (show ZSA cf ca ns ys ma95 p0 from (zsa_mk hv_18_p0 hkn (by first | with_reducible rfl | with_reducible assumption | omega)))⟩) d_Mpg_checkIndex_80
        · have nc93 : ¬ z92.toInt = (2 : Int) := mt (i_eq (x := z92) (y := 2)).mpr c93
          refine lv_aload_n S.x S.b d_Mpg_checkIndex_49 rfl (lv_at hl 2 rfl) ?_
          refine px_get S k_Mpg hT hw 0 0 35 (v := .ref (r 35)) rfl rfl rfl (by decide) m10_24 d_Mpg_checkIndex_50 ?_
          refine lv_iload_n S.x S.b d_Mpg_checkIndex_53 rfl (lv_at hl 0 rfl) ?_
          refine px_iald S hT hw 0 24 (n := 1100) (f := (ca 35)) rfl gp_35 (x := v3) (vp_in_iff.mpr (by first | exact oz_f8683445ad nc68 nc8 | (constructor <;> omega))) d_Mpg_checkIndex_54 ?_
          refine lv_topi (fun z96 ez96 => ?_)
          have lz96 := Int32.le_toInt z96
          have uz96 := Int32.toInt_lt z96
          refine lv_iconst (v := 3) S.x S.b d_Mpg_checkIndex_55 (by decide) ?_
          refine lv_icmp_eq (tgt := 68) S.x S.b d_Mpg_checkIndex_56 (by decide) (fun c97 => ?_) (fun c97 => ?_)
          · have nc97 : z96.toInt = (3 : Int) := (i_eq (x := z96) (y := 3)).mp c97
            refine lv_aload_n S.x S.b d_Mpg_checkIndex_68 rfl (lv_at hl 2 rfl) ?_
            refine px_get S k_Mpg hT hw 0 0 18 (v := .ref (r 18)) rfl rfl rfl (by decide) m10_3 d_Mpg_checkIndex_69 ?_
            refine lv_iload_n S.x S.b d_Mpg_checkIndex_72 rfl (lv_at hl 3 rfl) ?_
            refine lv_aload_n S.x S.b d_Mpg_checkIndex_73 rfl (lv_at hl 2 rfl) ?_
            refine px_get S k_Mpg hT hw 0 0 53 (v := .ref (r 53)) rfl rfl rfl (by decide) m10_48 d_Mpg_checkIndex_74 ?_
            refine lv_iload_n S.x S.b d_Mpg_checkIndex_77 rfl (lv_at hl 0 rfl) ?_
            refine px_iald S hT hw 0 32 (n := 1100) (f := (ca 53)) rfl gp_53 (x := v3) (vp_in_iff.mpr (by first | exact oz_f8683445ad nc68 nc8 | (constructor <;> omega))) d_Mpg_checkIndex_78 ?_
            refine lv_topi (fun z98 ez98 => ?_)
            have lz98 := Int32.le_toInt z98
            have uz98 := Int32.toInt_lt z98
            have hkn := KnS.at hks (k := v3) (by first | with_reducible rfl | with_reducible assumption | omega) (by first | with_reducible rfl | with_reducible assumption | omega) ez96 ez98
            refine px_iast S hT hw 0 14 (n := 2100) (f := (ma 18)) (x := p0) (y := z98) rfl gp_18 (vp_in_iff.mpr (by constructor <;> omega)) d_Mpg_checkIndex_79 (w' := wdP cs h r g tf ta pf na (va_up ma 18 (upd (ma 18) p0.toNatClampNeg z98)) wa cf ca ef ea xf xa) (ps' := [wdP cs h r g tf ta pf na (va_up ma 18 (upd (ma 18) p0.toNatClampNeg z98)) wa cf ca ef ea xf xa]) sp_18 rfl (fun H locs hw => ?_)
            obtain ⟨ma99, hu_ma99⟩ : ∃ y : Nat → Nat → Int32, y = va_up ma 18 (upd (ma 18) p0.toNatClampNeg z98) := ⟨_, rfl⟩
            have hw : pw D A s.heap _ _ [wdP cs h r g tf ta pf na ma99 wa cf ca ef ea xf xa] := (by rw [hu_ma99]; exact hw)
            have hf1_ma99 : FrC p0.toInt (p0.toInt + 1) ma ma99 := (by rw [hu_ma99]; exact FrC.w FrC.rf (by first | with_reducible rfl | with_reducible assumption | omega) (by first | with_reducible rfl | with_reducible assumption | omega) (by first | with_reducible rfl | with_reducible assumption | omega))
            have han : Ann na ma0 ma99 := (by rw [hu_ma99]; exact Ann.w18 han (by first | with_reducible rfl | with_reducible assumption | omega))
            have hfc := hfc.tr hf1_ma99 (by first | with_reducible rfl | with_reducible assumption | omega) (by first | with_reducible rfl | with_reducible assumption | omega)
            have hv_18_p0 : ma99 18 p0.toNatClampNeg = z98 := (by rw [hu_ma99, va_up_s, pk_us])
            have hnhv_18_p0 : (ma99 18 p0.toNatClampNeg).toInt = z98.toInt := (by rw [hv_18_p0])
            exact px_vret S hr hlk hAe hw (Nat.le_of_ble_eq_true rfl) (Nat.le_of_ble_eq_true rfl) (⟨ma99, cf, rfl, (show KpE cf cf from hke), (show WrV cf (tf 6).toInt from hwr), (show (cf 33).toInt = (cf 33).toInt from rfl), (show (cf 38).toInt = (cf 38).toInt from rfl), (show (cf 48).toInt = (cf 48).toInt from rfl), (show (cf 46).toInt = (cf 46).toInt from rfl), (show (cf 47).toInt = (cf 47).toInt from rfl), (show (cf 57).toInt = (cf 57).toInt from rfl), (show Ann na ma0 ma99 from han), (show FrC lo hi ma ma99 from hfc), (show ZSA cf ca ns ys ma99 p0 from (zsa_mk hv_18_p0 hkn (by first | with_reducible rfl | with_reducible assumption | omega)))⟩) d_Mpg_checkIndex_80
          · have nc97 : ¬ z96.toInt = (3 : Int) := mt (i_eq (x := z96) (y := 3)).mpr c97
            refine lv_aload_n S.x S.b d_Mpg_checkIndex_59 rfl (lv_at hl 2 rfl) ?_
            refine lv_iconst (v := 3) S.x S.b d_Mpg_checkIndex_60 (by decide) ?_
            refine lv_iload_n S.x S.b d_Mpg_checkIndex_61 rfl (lv_at hl 1 rfl) ?_
            refine px_callv (pr := []) (px_runV (As := [.int 3, .int z1]) (rest := []) S (c_mp_bad l D cs h r g tf ta pf na ma wa ca ef ea xf xa cf 3 z1  (show 1 ≤ (3 : Int) from by first | decide | omega) (show 0 ≤ z1.toInt from by first | exact rz1.1 | omega) (show z1.toInt < (tf 6).toInt from by first | exact oz_7fe81129bf rz1.2 | omega) htk hwr _) hT (pr := []) (pcs := [wdP cs h r g tf ta pf na ma wa cf ca ef ea xf xa]) hw px_X.tt (px_recv hT hw 0 0 rfl rfl rfl) m12_173 m12_170 m12_172 ms_11_12 m1_21 q_Mpg_bad ⟨Nat.le_of_ble_eq_true rfl, Nat.le_of_ble_eq_true rfl⟩ hl.1 rfl (Nat.le_of_ble_eq_true rfl) d_Mpg_checkIndex_62 ⟨Nat.le_of_ble_eq_true rfl, Nat.le_of_ble_eq_true rfl⟩) hw hA (fun p102 H locs hp102 hw => ?_)
            obtain ⟨cf101, rfl, e104, e105, e106, e107, e108, e109, e110, e111, e112, e113, e114, e115, e116, e117, e118, e119, e120, e121, e122⟩ := hp102
            have e104 : KpE cf cf101 := e104
            have hke := (hke).tr e104
            have hkz_e104 := e104.2
            have e105 : WrV cf101 (tf 6).toInt := e105
            have hwr := e105
            have hw0_e105 := hwr.1
            have e106 : 1 ≤ (cf101 30).toInt := e106
            have e107 : (cf101 33).toInt = (cf 33).toInt := e107
            have e108 : (cf101 38).toInt = (cf 38).toInt := e108
            have e109 : (cf101 48).toInt = (cf 48).toInt := e109
            have e110 : (cf101 46).toInt = (cf 46).toInt := e110
            have e111 : (cf101 47).toInt = (cf 47).toInt := e111
            have e112 : (cf101 57).toInt = (cf 57).toInt := e112
            have e113 : (cf101 37).toInt = (cf 37).toInt := e113
            have e114 : (cf101 42).toInt = (cf 42).toInt := e114
            have e115 : (cf101 43).toInt = (cf 43).toInt := e115
            have e116 : (cf101 44).toInt = (cf 44).toInt := e116
            have e117 : (cf101 45).toInt = (cf 45).toInt := e117
            have e118 : (cf101 54).toInt = (cf 54).toInt := e118
            have e119 : (cf101 55).toInt = (cf 55).toInt := e119
            have e120 : (cf101 58).toInt = (cf 58).toInt := e120
            have e121 : (cf101 59).toInt = (cf 59).toInt := e121
            have e122 : (cf101 41).toInt = (cf 41).toInt := e122
            have hw : pw D A s.heap H locs [wdP cs h r g tf ta pf na ma wa cf101 ca ef ea xf xa] := hw
            refine lv_goto (tgt := 80) S.x S.b d_Mpg_checkIndex_65 (by decide) ?_
            exact px_vret S hr hlk hAe hw (Nat.le_of_ble_eq_true rfl) (Nat.le_of_ble_eq_true rfl) (⟨ma, cf101, rfl, (show KpE cf cf101 from hke), (show WrV cf101 (tf 6).toInt from hwr), (show (cf101 33).toInt = (cf 33).toInt from by first | exact e107 | omega), (show (cf101 38).toInt = (cf 38).toInt from by first | exact e108 | omega), (show (cf101 48).toInt = (cf 48).toInt from by first | exact e109 | omega), (show (cf101 46).toInt = (cf 46).toInt from by first | exact e110 | omega), (show (cf101 47).toInt = (cf 47).toInt from by first | exact e111 | omega), (show (cf101 57).toInt = (cf 57).toInt from by first | exact e112 | omega), (show Ann na ma0 ma from han), (show FrC lo hi ma ma from hfc), (show ZSA cf101 ca ns ys ma p0 from (zr_no (by first | with_reducible rfl | with_reducible assumption | omega)))⟩) d_Mpg_checkIndex_80
    · have nc67 : v65.toInt = (0 : Int) := (i_eq (x := v65) (y := 0)).mp c67
      refine lv_aload_n S.x S.b d_Mpg_checkIndex_26 rfl (lv_at hl 2 rfl) ?_
      refine lv_iconst (v := 2) S.x S.b d_Mpg_checkIndex_27 (by decide) ?_
      refine lv_iload_n S.x S.b d_Mpg_checkIndex_28 rfl (lv_at hl 1 rfl) ?_
      refine px_callv (pr := []) (px_runV (As := [.int 2, .int z1]) (rest := []) S (c_mp_bad l D cs h r g tf ta pf na ma wa ca ef ea xf xa cf 2 z1  (show 1 ≤ (2 : Int) from by first | decide | omega) (show 0 ≤ z1.toInt from by first | exact rz1.1 | omega) (show z1.toInt < (tf 6).toInt from by first | exact oz_7fe81129bf rz1.2 | omega) htk hwr _) hT (pr := []) (pcs := [wdP cs h r g tf ta pf na ma wa cf ca ef ea xf xa]) hw px_X.tt (px_recv hT hw 0 0 rfl rfl rfl) m12_173 m12_170 m12_172 ms_11_12 m1_21 q_Mpg_bad ⟨Nat.le_of_ble_eq_true rfl, Nat.le_of_ble_eq_true rfl⟩ hl.1 rfl (Nat.le_of_ble_eq_true rfl) d_Mpg_checkIndex_29 ⟨Nat.le_of_ble_eq_true rfl, Nat.le_of_ble_eq_true rfl⟩) hw hA (fun p125 H locs hp125 hw => ?_)
      obtain ⟨cf124, rfl, e127, e128, e129, e130, e131, e132, e133, e134, e135, e136, e137, e138, e139, e140, e141, e142, e143, e144, e145⟩ := hp125
      have e127 : KpE cf cf124 := e127
      have hke := (hke).tr e127
      have hkz_e127 := e127.2
      have e128 : WrV cf124 (tf 6).toInt := e128
      have hwr := e128
      have hw0_e128 := hwr.1
      have e129 : 1 ≤ (cf124 30).toInt := e129
      have e130 : (cf124 33).toInt = (cf 33).toInt := e130
      have e131 : (cf124 38).toInt = (cf 38).toInt := e131
      have e132 : (cf124 48).toInt = (cf 48).toInt := e132
      have e133 : (cf124 46).toInt = (cf 46).toInt := e133
      have e134 : (cf124 47).toInt = (cf 47).toInt := e134
      have e135 : (cf124 57).toInt = (cf 57).toInt := e135
      have e136 : (cf124 37).toInt = (cf 37).toInt := e136
      have e137 : (cf124 42).toInt = (cf 42).toInt := e137
      have e138 : (cf124 43).toInt = (cf 43).toInt := e138
      have e139 : (cf124 44).toInt = (cf 44).toInt := e139
      have e140 : (cf124 45).toInt = (cf 45).toInt := e140
      have e141 : (cf124 54).toInt = (cf 54).toInt := e141
      have e142 : (cf124 55).toInt = (cf 55).toInt := e142
      have e143 : (cf124 58).toInt = (cf 58).toInt := e143
      have e144 : (cf124 59).toInt = (cf 59).toInt := e144
      have e145 : (cf124 41).toInt = (cf 41).toInt := e145
      have hw : pw D A s.heap H locs [wdP cs h r g tf ta pf na ma wa cf124 ca ef ea xf xa] := hw
      refine lv_goto (tgt := 80) S.x S.b d_Mpg_checkIndex_32 (by decide) ?_
      exact px_vret S hr hlk hAe hw (Nat.le_of_ble_eq_true rfl) (Nat.le_of_ble_eq_true rfl) (⟨ma, cf124, rfl, (show KpE cf cf124 from hke), (show WrV cf124 (tf 6).toInt from hwr), (show (cf124 33).toInt = (cf 33).toInt from by first | exact e130 | omega), (show (cf124 38).toInt = (cf 38).toInt from by first | exact e131 | omega), (show (cf124 48).toInt = (cf 48).toInt from by first | exact e132 | omega), (show (cf124 46).toInt = (cf 46).toInt from by first | exact e133 | omega), (show (cf124 47).toInt = (cf 47).toInt from by first | exact e134 | omega), (show (cf124 57).toInt = (cf 57).toInt from by first | exact e135 | omega), (show Ann na ma0 ma from han), (show FrC lo hi ma ma from hfc), (show ZSA cf124 ca ns ys ma p0 from (zr_no (by first | with_reducible rfl | with_reducible assumption | omega)))⟩) d_Mpg_checkIndex_80
abbrev b_Mpg_checkPlace : ByteArray := prog_16_method_76_code
def y_Mpg_checkPlace : MethodName := ⟨"HomeSystemModel$Program", "checkPlace", "(II)V"⟩
theorem d_Mpg_checkPlace_0 : decode b_Mpg_checkPlace 0 = .ok (.iload_n 2, 1) := by decide +kernel
theorem d_Mpg_checkPlace_1 : decode b_Mpg_checkPlace 1 = .ok (.iconst 2, 1) := by decide +kernel
theorem d_Mpg_checkPlace_2 : decode b_Mpg_checkPlace 2 = .ok (.if_icmp .eq 8, 3) := by decide +kernel
theorem d_Mpg_checkPlace_5 : decode b_Mpg_checkPlace 5 = .ok (.iload_n 2, 1) := by decide +kernel
theorem d_Mpg_checkPlace_6 : decode b_Mpg_checkPlace 6 = .ok (.iconst 3, 1) := by decide +kernel
theorem d_Mpg_checkPlace_7 : decode b_Mpg_checkPlace 7 = .ok (.if_icmp .ne 13, 3) := by decide +kernel
theorem d_Mpg_checkPlace_10 : decode b_Mpg_checkPlace 10 = .ok (.aload_n 0, 1) := by decide +kernel
theorem d_Mpg_checkPlace_11 : decode b_Mpg_checkPlace 11 = .ok (.iconst 3, 1) := by decide +kernel
theorem d_Mpg_checkPlace_12 : decode b_Mpg_checkPlace 12 = .ok (.aload_n 0, 1) := by decide +kernel
theorem d_Mpg_checkPlace_13 : decode b_Mpg_checkPlace 13 = .ok (.iload_n 1, 1) := by decide +kernel
theorem d_Mpg_checkPlace_14 : decode b_Mpg_checkPlace 14 = .ok (.invokevirtual 584, 3) := by decide +kernel
theorem d_Mpg_checkPlace_17 : decode b_Mpg_checkPlace 17 = .ok (.invokevirtual 565, 3) := by decide +kernel
theorem d_Mpg_checkPlace_20 : decode b_Mpg_checkPlace 20 = .ok (.aload_n 0, 1) := by decide +kernel
theorem d_Mpg_checkPlace_21 : decode b_Mpg_checkPlace 21 = .ok (.getfield 207, 3) := by decide +kernel
theorem d_Mpg_checkPlace_24 : decode b_Mpg_checkPlace 24 = .ok (.iload_n 1, 1) := by decide +kernel
theorem d_Mpg_checkPlace_25 : decode b_Mpg_checkPlace 25 = .ok (.baload, 1) := by decide +kernel
theorem d_Mpg_checkPlace_26 : decode b_Mpg_checkPlace 26 = .ok (.iconst 4, 1) := by decide +kernel
theorem d_Mpg_checkPlace_27 : decode b_Mpg_checkPlace 27 = .ok (.if_icmp .eq 17, 3) := by decide +kernel
theorem d_Mpg_checkPlace_30 : decode b_Mpg_checkPlace 30 = .ok (.aload_n 0, 1) := by decide +kernel
theorem d_Mpg_checkPlace_31 : decode b_Mpg_checkPlace 31 = .ok (.getfield 207, 3) := by decide +kernel
theorem d_Mpg_checkPlace_34 : decode b_Mpg_checkPlace 34 = .ok (.iload_n 1, 1) := by decide +kernel
theorem d_Mpg_checkPlace_35 : decode b_Mpg_checkPlace 35 = .ok (.baload, 1) := by decide +kernel
theorem d_Mpg_checkPlace_36 : decode b_Mpg_checkPlace 36 = .ok (.iconst 2, 1) := by decide +kernel
theorem d_Mpg_checkPlace_37 : decode b_Mpg_checkPlace 37 = .ok (.if_icmp .ne 11, 3) := by decide +kernel
theorem d_Mpg_checkPlace_40 : decode b_Mpg_checkPlace 40 = .ok (.iload_n 2, 1) := by decide +kernel
theorem d_Mpg_checkPlace_41 : decode b_Mpg_checkPlace 41 = .ok (.ifCond .ne 7, 3) := by decide +kernel
theorem d_Mpg_checkPlace_44 : decode b_Mpg_checkPlace 44 = .ok (.iconst 1, 1) := by decide +kernel
theorem d_Mpg_checkPlace_45 : decode b_Mpg_checkPlace 45 = .ok (.goto 4, 3) := by decide +kernel
theorem d_Mpg_checkPlace_48 : decode b_Mpg_checkPlace 48 = .ok (.iconst 0, 1) := by decide +kernel
theorem d_Mpg_checkPlace_49 : decode b_Mpg_checkPlace 49 = .ok (.istore_n 3, 1) := by decide +kernel
theorem d_Mpg_checkPlace_50 : decode b_Mpg_checkPlace 50 = .ok (.aload_n 0, 1) := by decide +kernel
theorem d_Mpg_checkPlace_51 : decode b_Mpg_checkPlace 51 = .ok (.getfield 207, 3) := by decide +kernel
theorem d_Mpg_checkPlace_54 : decode b_Mpg_checkPlace 54 = .ok (.iload_n 1, 1) := by decide +kernel
theorem d_Mpg_checkPlace_55 : decode b_Mpg_checkPlace 55 = .ok (.baload, 1) := by decide +kernel
theorem d_Mpg_checkPlace_56 : decode b_Mpg_checkPlace 56 = .ok (.iconst 2, 1) := by decide +kernel
theorem d_Mpg_checkPlace_57 : decode b_Mpg_checkPlace 57 = .ok (.if_icmp .ne 34, 3) := by decide +kernel
theorem d_Mpg_checkPlace_60 : decode b_Mpg_checkPlace 60 = .ok (.iload_n 2, 1) := by decide +kernel
theorem d_Mpg_checkPlace_61 : decode b_Mpg_checkPlace 61 = .ok (.iconst 1, 1) := by decide +kernel
theorem d_Mpg_checkPlace_62 : decode b_Mpg_checkPlace 62 = .ok (.if_icmp .ne 29, 3) := by decide +kernel
theorem d_Mpg_checkPlace_65 : decode b_Mpg_checkPlace 65 = .ok (.aload_n 0, 1) := by decide +kernel
theorem d_Mpg_checkPlace_66 : decode b_Mpg_checkPlace 66 = .ok (.getfield 249, 3) := by decide +kernel
theorem d_Mpg_checkPlace_69 : decode b_Mpg_checkPlace 69 = .ok (.aload_n 0, 1) := by decide +kernel
theorem d_Mpg_checkPlace_70 : decode b_Mpg_checkPlace 70 = .ok (.aload_n 0, 1) := by decide +kernel
theorem d_Mpg_checkPlace_71 : decode b_Mpg_checkPlace 71 = .ok (.getfield 210, 3) := by decide +kernel
theorem d_Mpg_checkPlace_74 : decode b_Mpg_checkPlace 74 = .ok (.iload_n 1, 1) := by decide +kernel
theorem d_Mpg_checkPlace_75 : decode b_Mpg_checkPlace 75 = .ok (.iaload, 1) := by decide +kernel
theorem d_Mpg_checkPlace_76 : decode b_Mpg_checkPlace 76 = .ok (.iconst 0, 1) := by decide +kernel
theorem d_Mpg_checkPlace_77 : decode b_Mpg_checkPlace 77 = .ok (.invokevirtual 559, 3) := by decide +kernel
theorem d_Mpg_checkPlace_80 : decode b_Mpg_checkPlace 80 = .ok (.iaload, 1) := by decide +kernel
theorem d_Mpg_checkPlace_81 : decode b_Mpg_checkPlace 81 = .ok (.iconst 1, 1) := by decide +kernel
theorem d_Mpg_checkPlace_82 : decode b_Mpg_checkPlace 82 = .ok (.if_icmp .ne 7, 3) := by decide +kernel
theorem d_Mpg_checkPlace_85 : decode b_Mpg_checkPlace 85 = .ok (.iconst 1, 1) := by decide +kernel
theorem d_Mpg_checkPlace_86 : decode b_Mpg_checkPlace 86 = .ok (.goto 4, 3) := by decide +kernel
theorem d_Mpg_checkPlace_89 : decode b_Mpg_checkPlace 89 = .ok (.iconst 0, 1) := by decide +kernel
theorem d_Mpg_checkPlace_90 : decode b_Mpg_checkPlace 90 = .ok (.istore_n 3, 1) := by decide +kernel
theorem d_Mpg_checkPlace_91 : decode b_Mpg_checkPlace 91 = .ok (.iload_n 3, 1) := by decide +kernel
theorem d_Mpg_checkPlace_92 : decode b_Mpg_checkPlace 92 = .ok (.ifCond .ne 14, 3) := by decide +kernel
theorem d_Mpg_checkPlace_95 : decode b_Mpg_checkPlace 95 = .ok (.aload_n 0, 1) := by decide +kernel
theorem d_Mpg_checkPlace_96 : decode b_Mpg_checkPlace 96 = .ok (.bipush 6, 2) := by decide +kernel
theorem d_Mpg_checkPlace_98 : decode b_Mpg_checkPlace 98 = .ok (.aload_n 0, 1) := by decide +kernel
theorem d_Mpg_checkPlace_99 : decode b_Mpg_checkPlace 99 = .ok (.iload_n 1, 1) := by decide +kernel
theorem d_Mpg_checkPlace_100 : decode b_Mpg_checkPlace 100 = .ok (.invokevirtual 584, 3) := by decide +kernel
theorem d_Mpg_checkPlace_103 : decode b_Mpg_checkPlace 103 = .ok (.invokevirtual 565, 3) := by decide +kernel
theorem d_Mpg_checkPlace_106 : decode b_Mpg_checkPlace 106 = .ok (.return_, 1) := by decide +kernel
theorem q_Mpg_checkPlace : px_y y_Mpg_checkPlace 2 := by unfold px_y; decide +kernel
set_option maxHeartbeats 4000000 in
set_option maxRecDepth 100000 in
theorem c_mp_checkPlace (l : Launch) (D : va_G) (cs : Nat → ClassId) (ma0 : Nat → Nat → Int32) (ys : Int) (ns : Int) (nf : Int) (kn : Int) (d : Nat) (lo : Int) (hi : Int) (h : Nat) (r : Nat → Nat) (g : Nat → Nat → Option Nat) (tf : Nat → Int32) (ta : Nat → Nat → Int32) (pf : Nat → Int32) (na : Nat → Nat → Int32) (ma : Nat → Nat → Int32) (wa : Nat → Nat → Int32) (ca : Nat → Nat → Int32) (ef : Nat → Int32) (ea : Nat → Nat → Int32) (xf : Nat → Int32) (xa : Nat → Nat → Int32) (cf : Nat → Int32) (p0 p1 : Int32)  (g0 : 0 ≤ lo) (g1 : hi ≤ (pf 13).toInt) (g2 : (pf 13).toInt ≤ 2100) (g3 : (tf 6).toInt ≤ 2049) (g4 : (cf 33).toInt = kn) (g5 : 0 ≤ kn) (g6 : (cf 48).toInt = ns) (g7 : (cf 38).toInt = nf) (g8 : 0 ≤ nf) (g9 : 0 ≤ p1.toInt) (g10 : p1.toInt ≤ 4) (htk : TkI tf ta) (hfs : FsI (tf 6).toInt (pf 13).toInt na) (hwr : WrV cf (tf 6).toInt) (hkt : KnT (tf 6).toInt ca (cf 33).toInt) (hft : FnT (tf 6).toInt na ca (cf 38).toInt) (hks : KnS ca kn ns ys) (hec : EcV ta (tf 6).toInt na ma0 d lo hi p0) (hnj : NmJ ta ca na ma kn p0 p1.toInt) : MetV l y_Mpg_checkPlace b_Mpg_checkPlace 4 D cs 3 120 (0) (0) [.ref h, .int p0, .int p1] [wdP cs h r g tf ta pf na ma wa cf ca ef ea xf xa] (oX (fun A U H => (oP A g U H)) [wdP cs h r g tf ta pf na ma wa cf ca ef ea xf xa]) (fun ps => ∃ (cf' : Nat → Int32), (ps = [wdP cs h r g tf ta pf na ma wa cf' ca ef ea xf xa]) ∧ (KpE cf cf') ∧ (WrV cf' (tf 6).toInt) ∧ ((cf' 33).toInt = (cf 33).toInt) ∧ ((cf' 38).toInt = (cf 38).toInt) ∧ ((cf' 48).toInt = (cf 48).toInt) ∧ ((cf' 46).toInt = (cf 46).toInt) ∧ ((cf' 47).toInt = (cf 47).toInt) ∧ ((cf' 57).toInt = (cf 57).toInt) ∧ (ZPl cf' na ma p0 p1.toInt)) := by
  refine px_enter (by decide) (Nat.le_of_ble_eq_true rfl) ?_
  intro p e s m below meth c A ls hAe S hr hlk hnm hA hT hX hw hl
  have hl : lv_has ls 4 [(0, .ref h), (1, .int p0), (2, .int p1)] := hl
  have lp0 := Int32.le_toInt p0
  have up0 := Int32.toInt_lt p0
  have lp1 := Int32.le_toInt p1
  have up1 := Int32.toInt_lt p1
  have cst0 : (0 : Int32).toInt = 0 := rfl
  have cst1 : (1 : Int32).toInt = 1 := rfl
  have cst2 : (2 : Int32).toInt = 2 := rfl
  have cst3 : (3 : Int32).toInt = 3 := rfl
  have cst4 : (4 : Int32).toInt = 4 := rfl
  have cst6 : (6 : Int32).toInt = 6 := rfl
  have hX : (fun A U H => (oP A g U H)) A s s.heap := by rw [hAe]; exact hX
  have hP := hX
  have hZ := hP.1
  have hF0 := hP.2.1
  have hke : KpE cf cf := KpE.rf
  have hfc : FrC lo hi ma ma := FrC.rf
  have hwr0 := hwr.1
  have hk11 := hkt.1
  have hf11 := hft.1
  have hec_p0 := hec
  have hrg := EcV.rng hec
  refine lv_iload_n S.x S.b d_Mpg_checkPlace_0 rfl (lv_at hl 2 rfl) ?_
  refine lv_iconst (v := 2) S.x S.b d_Mpg_checkPlace_1 (by decide) ?_
  refine lv_icmp_eq (tgt := 10) S.x S.b d_Mpg_checkPlace_2 (by decide) (fun c1 => ?_) (fun c1 => ?_)
  · have nc1 : p1.toInt = (2 : Int) := (i_eq (x := p1) (y := 2)).mp c1
    refine lv_aload_n S.x S.b d_Mpg_checkPlace_10 rfl (lv_at hl 0 rfl) ?_
    refine lv_iconst (v := 3) S.x S.b d_Mpg_checkPlace_11 (by decide) ?_
    refine lv_aload_n S.x S.b d_Mpg_checkPlace_12 rfl (lv_at hl 0 rfl) ?_
    refine lv_iload_n S.x S.b d_Mpg_checkPlace_13 rfl (lv_at hl 1 rfl) ?_
    refine px_calli (pr := []) (px_runV (As := [.int p0]) (rest := [.int 3, .ref h]) S (c_mp_first l D cs h r g tf ta pf na ma wa cf ca ef ea xf xa p0  (show 0 ≤ p0.toInt from by first | exact hrg.2.2 | omega) (show p0.toInt < (pf 13).toInt from by first | exact oz_7319c2f99d g1 hrg.2.1 | omega) (show (pf 13).toInt ≤ 2100 from by first | exact g2 | omega) htk (FsI.le (N' := (pf 13).toInt) hfs (by first | with_reducible rfl | with_reducible assumption | omega)) _) hT (pr := []) (pcs := [wdP cs h r g tf ta pf na ma wa cf ca ef ea xf xa]) hw px_X.tt (px_recv hT hw 0 0 rfl rfl rfl) m13_9 m13_6 m13_8 ms_12_15 m1_21 q_Mpg_first ⟨Nat.le_of_ble_eq_true rfl, Nat.le_of_ble_eq_true rfl⟩ hl.1 rfl (Nat.le_of_ble_eq_true rfl) d_Mpg_checkPlace_14 ⟨Nat.le_of_ble_eq_true rfl, Nat.le_of_ble_eq_true rfl⟩) hw hA (fun v3 p2 H locs hp2 hw => ?_)
    obtain ⟨rfl, e4, e5⟩ := hp2
    have e4 : 0 ≤ v3.toInt := e4
    have e5 : v3.toInt < (tf 6).toInt := e5
    have hw : pw D A s.heap H locs [wdP cs h r g tf ta pf na ma wa cf ca ef ea xf xa] := hw
    have lv3 := Int32.le_toInt v3
    have uv3 := Int32.toInt_lt v3
    refine px_callv (pr := []) (px_runV (As := [.int 3, .int v3]) (rest := []) S (c_mp_bad l D cs h r g tf ta pf na ma wa ca ef ea xf xa cf 3 v3  (show 1 ≤ (3 : Int) from by first | decide | omega) (show 0 ≤ v3.toInt from by first | exact e4 | omega) (show v3.toInt < (tf 6).toInt from by first | exact e5 | omega) htk hwr _) hT (pr := []) (pcs := [wdP cs h r g tf ta pf na ma wa cf ca ef ea xf xa]) hw px_X.tt (px_recv hT hw 0 0 rfl rfl rfl) m12_173 m12_170 m12_172 ms_11_12 m1_21 q_Mpg_bad ⟨Nat.le_of_ble_eq_true rfl, Nat.le_of_ble_eq_true rfl⟩ hl.1 rfl (Nat.le_of_ble_eq_true rfl) d_Mpg_checkPlace_17 ⟨Nat.le_of_ble_eq_true rfl, Nat.le_of_ble_eq_true rfl⟩) hw hA (fun p8 H locs hp8 hw => ?_)
    obtain ⟨cf7, rfl, e10, e11, e12, e13, e14, e15, e16, e17, e18, e19, e20, e21, e22, e23, e24, e25, e26, e27, e28⟩ := hp8
    have e10 : KpE cf cf7 := e10
    have hke := (hke).tr e10
    have hkz_e10 := e10.2
    have e11 : WrV cf7 (tf 6).toInt := e11
    have hwr := e11
    have hw0_e11 := hwr.1
    have e12 : 1 ≤ (cf7 30).toInt := e12
    have e13 : (cf7 33).toInt = (cf 33).toInt := e13
    have e14 : (cf7 38).toInt = (cf 38).toInt := e14
    have e15 : (cf7 48).toInt = (cf 48).toInt := e15
    have e16 : (cf7 46).toInt = (cf 46).toInt := e16
    have e17 : (cf7 47).toInt = (cf 47).toInt := e17
    have e18 : (cf7 57).toInt = (cf 57).toInt := e18
    have e19 : (cf7 37).toInt = (cf 37).toInt := e19
    have e20 : (cf7 42).toInt = (cf 42).toInt := e20
    have e21 : (cf7 43).toInt = (cf 43).toInt := e21
    have e22 : (cf7 44).toInt = (cf 44).toInt := e22
    have e23 : (cf7 45).toInt = (cf 45).toInt := e23
    have e24 : (cf7 54).toInt = (cf 54).toInt := e24
    have e25 : (cf7 55).toInt = (cf 55).toInt := e25
    have e26 : (cf7 58).toInt = (cf 58).toInt := e26
    have e27 : (cf7 59).toInt = (cf 59).toInt := e27
    have e28 : (cf7 41).toInt = (cf 41).toInt := e28
    have hw : pw D A s.heap H locs [wdP cs h r g tf ta pf na ma wa cf7 ca ef ea xf xa] := hw
    refine lv_aload_n S.x S.b d_Mpg_checkPlace_20 rfl (lv_at hl 0 rfl) ?_
    refine px_get S k_Mpg hT hw 0 0 14 (v := .ref (r 14)) rfl rfl rfl (by decide) m9_238 d_Mpg_checkPlace_21 ?_
    refine lv_iload_n S.x S.b d_Mpg_checkPlace_24 rfl (lv_at hl 1 rfl) ?_
    refine px_bald S hT hw 0 10 (n := 2100) (f := (na 14)) rfl gp_14 (x := p0) (vp_in_iff.mpr (by first | exact oz_a7e05de1cd hrg.2.2 hrg.2.1 g1 g2 | (constructor <;> omega))) d_Mpg_checkPlace_25 ?_
    refine lv_topi (fun z29 ez29 => ?_)
    have lz29 := Int32.le_toInt z29
    have uz29 := Int32.toInt_lt z29
    have rz29 := EcV.kd hec_p0 ez29
    refine lv_iconst (v := 4) S.x S.b d_Mpg_checkPlace_26 (by decide) ?_
    refine lv_icmp_eq (tgt := 44) S.x S.b d_Mpg_checkPlace_27 (by decide) (fun c30 => ?_) (fun c30 => ?_)
    · have nc30 : z29.toInt = (4 : Int) := (i_eq (x := z29) (y := 4)).mp c30
      refine lv_iconst (v := 1) S.x S.b d_Mpg_checkPlace_44 (by decide) ?_
      refine lv_goto (tgt := 49) S.x S.b d_Mpg_checkPlace_45 (by decide) ?_
      refine lv_istore_n (lv' := [(3, .int 1), (0, .ref h), (1, .int p0), (2, .int p1)]) S.x S.b d_Mpg_checkPlace_49 rfl hl (by decide) rfl (fun ls hl => ?_)
      refine lv_aload_n S.x S.b d_Mpg_checkPlace_50 rfl (lv_at hl 1 rfl) ?_
      refine px_get S k_Mpg hT hw 0 0 14 (v := .ref (r 14)) rfl rfl rfl (by decide) m9_238 d_Mpg_checkPlace_51 ?_
      refine lv_iload_n S.x S.b d_Mpg_checkPlace_54 rfl (lv_at hl 2 rfl) ?_
      refine px_bald S hT hw 0 10 (n := 2100) (f := (na 14)) rfl gp_14 (x := p0) (vp_in_iff.mpr (by first | exact oz_a7e05de1cd hrg.2.2 hrg.2.1 g1 g2 | (constructor <;> omega))) d_Mpg_checkPlace_55 ?_
      refine lv_topi (fun z31 ez31 => ?_)
      have lz31 := Int32.le_toInt z31
      have uz31 := Int32.toInt_lt z31
      have rz31 := EcV.kd hec_p0 ez31
      refine lv_iconst (v := 2) S.x S.b d_Mpg_checkPlace_56 (by decide) ?_
      refine lv_icmp_ne (tgt := 91) S.x S.b d_Mpg_checkPlace_57 (by decide) (fun c32 => ?_) (fun c32 => ?_)
      · have nc32 : ¬ z31.toInt = (2 : Int) := mt (i_eq (x := z31) (y := 2)).mpr c32
        refine lv_iload_n S.x S.b d_Mpg_checkPlace_91 rfl (lv_at hl 0 rfl) ?_
        refine lv_if_ne (tgt := 106) S.x S.b d_Mpg_checkPlace_92 (by decide) (fun c33 => ?_) (fun c33 => ?_)
        ·
          exact px_vret S hr hlk hAe hw (Nat.le_of_ble_eq_true rfl) (Nat.le_of_ble_eq_true rfl) (⟨cf7, rfl, (show KpE cf cf7 from hke), (show WrV cf7 (tf 6).toInt from hwr), (show (cf7 33).toInt = (cf 33).toInt from by first | exact e13 | omega), (show (cf7 38).toInt = (cf 38).toInt from by first | exact e14 | omega), (show (cf7 48).toInt = (cf 48).toInt from by first | exact e15 | omega), (show (cf7 46).toInt = (cf 46).toInt from by first | exact e16 | omega), (show (cf7 47).toInt = (cf 47).toInt from by first | exact e17 | omega), (show (cf7 57).toInt = (cf 57).toInt from by first | exact e18 | omega), (show ZPl cf7 na ma p0 p1.toInt from (zr_no (by first | with_reducible rfl | with_reducible assumption | omega)))⟩) d_Mpg_checkPlace_106
        · exact absurd c33 (by decide)
      · have nc32 : z31.toInt = (2 : Int) := (i_eq (x := z31) (y := 2)).mp c32
        refine lv_iload_n S.x S.b d_Mpg_checkPlace_60 rfl (lv_at hl 3 rfl) ?_
        refine lv_iconst (v := 1) S.x S.b d_Mpg_checkPlace_61 (by decide) ?_
        refine lv_icmp_ne (tgt := 91) S.x S.b d_Mpg_checkPlace_62 (by decide) (fun c34 => ?_) (fun c34 => ?_)
        · have nc34 : ¬ p1.toInt = (1 : Int) := mt (i_eq (x := p1) (y := 1)).mpr c34
          refine lv_iload_n S.x S.b d_Mpg_checkPlace_91 rfl (lv_at hl 0 rfl) ?_
          refine lv_if_ne (tgt := 106) S.x S.b d_Mpg_checkPlace_92 (by decide) (fun c35 => ?_) (fun c35 => ?_)
          ·
            exact px_vret S hr hlk hAe hw (Nat.le_of_ble_eq_true rfl) (Nat.le_of_ble_eq_true rfl) (⟨cf7, rfl, (show KpE cf cf7 from hke), (show WrV cf7 (tf 6).toInt from hwr), (show (cf7 33).toInt = (cf 33).toInt from by first | exact e13 | omega), (show (cf7 38).toInt = (cf 38).toInt from by first | exact e14 | omega), (show (cf7 48).toInt = (cf 48).toInt from by first | exact e15 | omega), (show (cf7 46).toInt = (cf 46).toInt from by first | exact e16 | omega), (show (cf7 47).toInt = (cf 47).toInt from by first | exact e17 | omega), (show (cf7 57).toInt = (cf 57).toInt from by first | exact e18 | omega), (show ZPl cf7 na ma p0 p1.toInt from (zr_no (by first | with_reducible rfl | with_reducible assumption | omega)))⟩) d_Mpg_checkPlace_106
          · exact absurd c35 (by decide)
        · have nc34 : p1.toInt = (1 : Int) := (i_eq (x := p1) (y := 1)).mp c34
          refine lv_aload_n S.x S.b d_Mpg_checkPlace_65 rfl (lv_at hl 1 rfl) ?_
          refine px_get S k_Mpg hT hw 0 0 35 (v := .ref (r 35)) rfl rfl rfl (by decide) m10_24 d_Mpg_checkPlace_66 ?_
          refine lv_aload_n S.x S.b d_Mpg_checkPlace_69 rfl (lv_at hl 1 rfl) ?_
          refine lv_aload_n S.x S.b d_Mpg_checkPlace_70 rfl (lv_at hl 1 rfl) ?_
          refine px_get S k_Mpg hT hw 0 0 15 (v := .ref (r 15)) rfl rfl rfl (by decide) m9_239 d_Mpg_checkPlace_71 ?_
          refine lv_iload_n S.x S.b d_Mpg_checkPlace_74 rfl (lv_at hl 2 rfl) ?_
          refine px_iald S hT hw 0 11 (n := 2100) (f := (na 15)) rfl gp_15 (x := p0) (vp_in_iff.mpr (by first | exact oz_a7e05de1cd hrg.2.2 hrg.2.1 g1 g2 | (constructor <;> omega))) d_Mpg_checkPlace_75 ?_
          refine lv_topi (fun z36 ez36 => ?_)
          have lz36 := Int32.le_toInt z36
          have uz36 := Int32.toInt_lt z36
          have rz36 := EcV.tok hec_p0 ez36
          refine lv_iconst (v := 0) S.x S.b d_Mpg_checkPlace_76 (by decide) ?_
          refine px_calli (pr := []) (px_runV (As := [.int z36, .int 0]) (rest := [.ref (r 35)]) S (c_mp_find l D cs h r g tf ta pf na ma wa cf7 ca ef ea xf xa z36 0  (show 0 ≤ z36.toInt from by first | exact rz36.1 | omega) (show z36.toInt < (tf 6).toInt from by first | exact oz_7fe81129bf rz36.2 | omega) (show (tf 6).toInt ≤ 2049 from by first | exact g3 | omega) (show 0 ≤ (0 : Int) from by first | decide | omega) (show 0 ≤ (cf7 33).toInt from by first | exact oz_e2fef14871 e13 g4 g5 | omega) htk (KnT.eq hkt (by first | with_reducible rfl | with_reducible assumption | omega)) _) hT (pr := []) (pcs := [wdP cs h r g tf ta pf na ma wa cf7 ca ef ea xf xa]) hw px_X.tt (px_recv hT hw 0 0 rfl rfl rfl) m12_181 m12_178 m12_180 ms_11_14 m1_21 q_Mpg_find ⟨Nat.le_of_ble_eq_true rfl, Nat.le_of_ble_eq_true rfl⟩ hl.1 rfl (Nat.le_of_ble_eq_true rfl) d_Mpg_checkPlace_77 ⟨Nat.le_of_ble_eq_true rfl, Nat.le_of_ble_eq_true rfl⟩) hw hA (fun v38 p37 H locs hp37 hw => ?_)
          obtain ⟨rfl, e39, e40, e41, e42⟩ := hp37
          have e39 : -1 ≤ v38.toInt := e39
          have e40 : v38.toInt < (cf7 33).toInt := e40
          have e41 : 0 ≤ v38.toInt → (0 : Int) ≤ v38.toInt := e41
          have e42 : FndV ta ca (cf7 33).toInt z36 (0 : Int) v38.toInt := e42
          have hfd := e42
          have hw : pw D A s.heap H locs [wdP cs h r g tf ta pf na ma wa cf7 ca ef ea xf xa] := hw
          have lv38 := Int32.le_toInt v38
          have uv38 := Int32.toInt_lt v38
          have hps := nm_pos (hnj (by first | with_reducible rfl | with_reducible assumption | omega)) (by first | with_reducible rfl | with_reducible assumption | omega) hfd ez36 (by first | with_reducible rfl | with_reducible assumption | omega)
          refine px_iald S hT hw 0 24 (n := 1100) (f := (ca 35)) rfl gp_35 (x := v38) (vp_in_iff.mpr (by constructor <;> omega)) d_Mpg_checkPlace_80 ?_
          refine lv_topi (fun z43 ez43 => ?_)
          have lz43 := Int32.le_toInt z43
          have uz43 := Int32.toInt_lt z43
          refine lv_iconst (v := 1) S.x S.b d_Mpg_checkPlace_81 (by decide) ?_
          refine lv_icmp_ne (tgt := 89) S.x S.b d_Mpg_checkPlace_82 (by decide) (fun c44 => ?_) (fun c44 => ?_)
          · have nc44 : ¬ z43.toInt = (1 : Int) := mt (i_eq (x := z43) (y := 1)).mpr c44
            refine lv_iconst (v := 0) S.x S.b d_Mpg_checkPlace_89 (by decide) ?_
            refine lv_istore_n (lv' := [(3, .int 0), (0, .ref h), (1, .int p0), (2, .int p1)]) S.x S.b d_Mpg_checkPlace_90 rfl hl (by decide) rfl (fun ls hl => ?_)
            refine lv_iload_n S.x S.b d_Mpg_checkPlace_91 rfl (lv_at hl 0 rfl) ?_
            refine lv_if_ne (tgt := 106) S.x S.b d_Mpg_checkPlace_92 (by decide) (fun c45 => ?_) (fun c45 => ?_)
            · exact absurd c45 (by decide)
            ·
              refine lv_aload_n S.x S.b d_Mpg_checkPlace_95 rfl (lv_at hl 1 rfl) ?_
              refine lv_bipush (v := 6) S.x S.b d_Mpg_checkPlace_96 (by decide) ?_
              refine lv_aload_n S.x S.b d_Mpg_checkPlace_98 rfl (lv_at hl 1 rfl) ?_
              refine lv_iload_n S.x S.b d_Mpg_checkPlace_99 rfl (lv_at hl 2 rfl) ?_
              refine px_calli (pr := []) (px_runV (As := [.int p0]) (rest := [.int 6, .ref h]) S (c_mp_first l D cs h r g tf ta pf na ma wa cf7 ca ef ea xf xa p0  (show 0 ≤ p0.toInt from by first | exact hrg.2.2 | omega) (show p0.toInt < (pf 13).toInt from by first | exact oz_7319c2f99d g1 hrg.2.1 | omega) (show (pf 13).toInt ≤ 2100 from by first | exact g2 | omega) htk (FsI.le (N' := (pf 13).toInt) hfs (by first | with_reducible rfl | with_reducible assumption | omega)) _) hT (pr := []) (pcs := [wdP cs h r g tf ta pf na ma wa cf7 ca ef ea xf xa]) hw px_X.tt (px_recv hT hw 0 0 rfl rfl rfl) m13_9 m13_6 m13_8 ms_12_15 m1_21 q_Mpg_first ⟨Nat.le_of_ble_eq_true rfl, Nat.le_of_ble_eq_true rfl⟩ hl.1 rfl (Nat.le_of_ble_eq_true rfl) d_Mpg_checkPlace_100 ⟨Nat.le_of_ble_eq_true rfl, Nat.le_of_ble_eq_true rfl⟩) hw hA (fun v47 p46 H locs hp46 hw => ?_)
              obtain ⟨rfl, e48, e49⟩ := hp46
              have e48 : 0 ≤ v47.toInt := e48
              have e49 : v47.toInt < (tf 6).toInt := e49
              have hw : pw D A s.heap H locs [wdP cs h r g tf ta pf na ma wa cf7 ca ef ea xf xa] := hw
              have lv47 := Int32.le_toInt v47
              have uv47 := Int32.toInt_lt v47
              refine px_callv (pr := []) (px_runV (As := [.int 6, .int v47]) (rest := []) S (c_mp_bad l D cs h r g tf ta pf na ma wa ca ef ea xf xa cf7 6 v47  (show 1 ≤ (6 : Int) from by first | decide | omega) (show 0 ≤ v47.toInt from by first | exact e48 | omega) (show v47.toInt < (tf 6).toInt from by first | exact e49 | omega) htk hwr _) hT (pr := []) (pcs := [wdP cs h r g tf ta pf na ma wa cf7 ca ef ea xf xa]) hw px_X.tt (px_recv hT hw 0 0 rfl rfl rfl) m12_173 m12_170 m12_172 ms_11_12 m1_21 q_Mpg_bad ⟨Nat.le_of_ble_eq_true rfl, Nat.le_of_ble_eq_true rfl⟩ hl.1 rfl (Nat.le_of_ble_eq_true rfl) d_Mpg_checkPlace_103 ⟨Nat.le_of_ble_eq_true rfl, Nat.le_of_ble_eq_true rfl⟩) hw hA (fun p52 H locs hp52 hw => ?_)
              obtain ⟨cf51, rfl, e54, e55, e56, e57, e58, e59, e60, e61, e62, e63, e64, e65, e66, e67, e68, e69, e70, e71, e72⟩ := hp52
              have e54 : KpE cf7 cf51 := e54
              have hke := (hke).tr e54
              have hkz_e54 := e54.2
              have e55 : WrV cf51 (tf 6).toInt := e55
              have hwr := e55
              have hw0_e55 := hwr.1
              have e56 : 1 ≤ (cf51 30).toInt := e56
              have e57 : (cf51 33).toInt = (cf7 33).toInt := e57
              have e58 : (cf51 38).toInt = (cf7 38).toInt := e58
              have e59 : (cf51 48).toInt = (cf7 48).toInt := e59
              have e60 : (cf51 46).toInt = (cf7 46).toInt := e60
              have e61 : (cf51 47).toInt = (cf7 47).toInt := e61
              have e62 : (cf51 57).toInt = (cf7 57).toInt := e62
              have e63 : (cf51 37).toInt = (cf7 37).toInt := e63
              have e64 : (cf51 42).toInt = (cf7 42).toInt := e64
              have e65 : (cf51 43).toInt = (cf7 43).toInt := e65
              have e66 : (cf51 44).toInt = (cf7 44).toInt := e66
              have e67 : (cf51 45).toInt = (cf7 45).toInt := e67
              have e68 : (cf51 54).toInt = (cf7 54).toInt := e68
              have e69 : (cf51 55).toInt = (cf7 55).toInt := e69
              have e70 : (cf51 58).toInt = (cf7 58).toInt := e70
              have e71 : (cf51 59).toInt = (cf7 59).toInt := e71
              have e72 : (cf51 41).toInt = (cf7 41).toInt := e72
              have hw : pw D A s.heap H locs [wdP cs h r g tf ta pf na ma wa cf51 ca ef ea xf xa] := hw
              exact px_vret S hr hlk hAe hw (Nat.le_of_ble_eq_true rfl) (Nat.le_of_ble_eq_true rfl) (⟨cf51, rfl, (show KpE cf cf51 from hke), (show WrV cf51 (tf 6).toInt from hwr), (show (cf51 33).toInt = (cf 33).toInt from by first | exact oz_1687f4cc65 e13 e57 | omega), (show (cf51 38).toInt = (cf 38).toInt from by first | exact oz_1687f4cc65 e14 e58 | omega), (show (cf51 48).toInt = (cf 48).toInt from by first | exact oz_1687f4cc65 e15 e59 | omega), (show (cf51 46).toInt = (cf 46).toInt from by first | exact oz_1687f4cc65 e16 e60 | omega), (show (cf51 47).toInt = (cf 47).toInt from by first | exact oz_1687f4cc65 e17 e61 | omega), (show (cf51 57).toInt = (cf 57).toInt from by first | exact oz_1687f4cc65 e18 e62 | omega), (show ZPl cf51 na ma p0 p1.toInt from (zr_no (by first | with_reducible rfl | with_reducible assumption | omega)))⟩) d_Mpg_checkPlace_106
          · have nc44 : z43.toInt = (1 : Int) := (i_eq (x := z43) (y := 1)).mp c44
            refine lv_iconst (v := 1) S.x S.b d_Mpg_checkPlace_85 (by decide) ?_
            refine lv_goto (tgt := 90) S.x S.b d_Mpg_checkPlace_86 (by decide) ?_
            refine lv_istore_n (lv' := [(3, .int 1), (0, .ref h), (1, .int p0), (2, .int p1)]) S.x S.b d_Mpg_checkPlace_90 rfl hl (by decide) rfl (fun ls hl => ?_)
            refine lv_iload_n S.x S.b d_Mpg_checkPlace_91 rfl (lv_at hl 0 rfl) ?_
            refine lv_if_ne (tgt := 106) S.x S.b d_Mpg_checkPlace_92 (by decide) (fun c73 => ?_) (fun c73 => ?_)
            ·
              exact px_vret S hr hlk hAe hw (Nat.le_of_ble_eq_true rfl) (Nat.le_of_ble_eq_true rfl) (⟨cf7, rfl, (show KpE cf cf7 from hke), (show WrV cf7 (tf 6).toInt from hwr), (show (cf7 33).toInt = (cf 33).toInt from by first | exact e13 | omega), (show (cf7 38).toInt = (cf 38).toInt from by first | exact e14 | omega), (show (cf7 48).toInt = (cf 48).toInt from by first | exact e15 | omega), (show (cf7 46).toInt = (cf 46).toInt from by first | exact e16 | omega), (show (cf7 47).toInt = (cf 47).toInt from by first | exact e17 | omega), (show (cf7 57).toInt = (cf 57).toInt from by first | exact e18 | omega), (show ZPl cf7 na ma p0 p1.toInt from (zr_no (by first | with_reducible rfl | with_reducible assumption | omega)))⟩) d_Mpg_checkPlace_106
            · exact absurd c73 (by decide)
    · have nc30 : ¬ z29.toInt = (4 : Int) := mt (i_eq (x := z29) (y := 4)).mpr c30
      refine lv_aload_n S.x S.b d_Mpg_checkPlace_30 rfl (lv_at hl 0 rfl) ?_
      refine px_get S k_Mpg hT hw 0 0 14 (v := .ref (r 14)) rfl rfl rfl (by decide) m9_238 d_Mpg_checkPlace_31 ?_
      refine lv_iload_n S.x S.b d_Mpg_checkPlace_34 rfl (lv_at hl 1 rfl) ?_
      refine px_bald S hT hw 0 10 (n := 2100) (f := (na 14)) rfl gp_14 (x := p0) (vp_in_iff.mpr (by first | exact oz_a7e05de1cd hrg.2.2 hrg.2.1 g1 g2 | (constructor <;> omega))) d_Mpg_checkPlace_35 ?_
      refine lv_topi (fun z74 ez74 => ?_)
      have lz74 := Int32.le_toInt z74
      have uz74 := Int32.toInt_lt z74
      have rz74 := EcV.kd hec_p0 ez74
      refine lv_iconst (v := 2) S.x S.b d_Mpg_checkPlace_36 (by decide) ?_
      refine lv_icmp_ne (tgt := 48) S.x S.b d_Mpg_checkPlace_37 (by decide) (fun c75 => ?_) (fun c75 => ?_)
      · have nc75 : ¬ z74.toInt = (2 : Int) := mt (i_eq (x := z74) (y := 2)).mpr c75
        refine lv_iconst (v := 0) S.x S.b d_Mpg_checkPlace_48 (by decide) ?_
        refine lv_istore_n (lv' := [(3, .int 0), (0, .ref h), (1, .int p0), (2, .int p1)]) S.x S.b d_Mpg_checkPlace_49 rfl hl (by decide) rfl (fun ls hl => ?_)
        refine lv_aload_n S.x S.b d_Mpg_checkPlace_50 rfl (lv_at hl 1 rfl) ?_
        refine px_get S k_Mpg hT hw 0 0 14 (v := .ref (r 14)) rfl rfl rfl (by decide) m9_238 d_Mpg_checkPlace_51 ?_
        refine lv_iload_n S.x S.b d_Mpg_checkPlace_54 rfl (lv_at hl 2 rfl) ?_
        refine px_bald S hT hw 0 10 (n := 2100) (f := (na 14)) rfl gp_14 (x := p0) (vp_in_iff.mpr (by first | exact oz_a7e05de1cd hrg.2.2 hrg.2.1 g1 g2 | (constructor <;> omega))) d_Mpg_checkPlace_55 ?_
        refine lv_topi (fun z76 ez76 => ?_)
        have lz76 := Int32.le_toInt z76
        have uz76 := Int32.toInt_lt z76
        have rz76 := EcV.kd hec_p0 ez76
        refine lv_iconst (v := 2) S.x S.b d_Mpg_checkPlace_56 (by decide) ?_
        refine lv_icmp_ne (tgt := 91) S.x S.b d_Mpg_checkPlace_57 (by decide) (fun c77 => ?_) (fun c77 => ?_)
        · have nc77 : ¬ z76.toInt = (2 : Int) := mt (i_eq (x := z76) (y := 2)).mpr c77
          refine lv_iload_n S.x S.b d_Mpg_checkPlace_91 rfl (lv_at hl 0 rfl) ?_
          refine lv_if_ne (tgt := 106) S.x S.b d_Mpg_checkPlace_92 (by decide) (fun c78 => ?_) (fun c78 => ?_)
          · exact absurd c78 (by decide)
          ·
            refine lv_aload_n S.x S.b d_Mpg_checkPlace_95 rfl (lv_at hl 1 rfl) ?_
            refine lv_bipush (v := 6) S.x S.b d_Mpg_checkPlace_96 (by decide) ?_
            refine lv_aload_n S.x S.b d_Mpg_checkPlace_98 rfl (lv_at hl 1 rfl) ?_
            refine lv_iload_n S.x S.b d_Mpg_checkPlace_99 rfl (lv_at hl 2 rfl) ?_
            refine px_calli (pr := []) (px_runV (As := [.int p0]) (rest := [.int 6, .ref h]) S (c_mp_first l D cs h r g tf ta pf na ma wa cf7 ca ef ea xf xa p0  (show 0 ≤ p0.toInt from by first | exact hrg.2.2 | omega) (show p0.toInt < (pf 13).toInt from by first | exact oz_7319c2f99d g1 hrg.2.1 | omega) (show (pf 13).toInt ≤ 2100 from by first | exact g2 | omega) htk (FsI.le (N' := (pf 13).toInt) hfs (by first | with_reducible rfl | with_reducible assumption | omega)) _) hT (pr := []) (pcs := [wdP cs h r g tf ta pf na ma wa cf7 ca ef ea xf xa]) hw px_X.tt (px_recv hT hw 0 0 rfl rfl rfl) m13_9 m13_6 m13_8 ms_12_15 m1_21 q_Mpg_first ⟨Nat.le_of_ble_eq_true rfl, Nat.le_of_ble_eq_true rfl⟩ hl.1 rfl (Nat.le_of_ble_eq_true rfl) d_Mpg_checkPlace_100 ⟨Nat.le_of_ble_eq_true rfl, Nat.le_of_ble_eq_true rfl⟩) hw hA (fun v80 p79 H locs hp79 hw => ?_)
            obtain ⟨rfl, e81, e82⟩ := hp79
            have e81 : 0 ≤ v80.toInt := e81
            have e82 : v80.toInt < (tf 6).toInt := e82
            have hw : pw D A s.heap H locs [wdP cs h r g tf ta pf na ma wa cf7 ca ef ea xf xa] := hw
            have lv80 := Int32.le_toInt v80
            have uv80 := Int32.toInt_lt v80
            refine px_callv (pr := []) (px_runV (As := [.int 6, .int v80]) (rest := []) S (c_mp_bad l D cs h r g tf ta pf na ma wa ca ef ea xf xa cf7 6 v80  (show 1 ≤ (6 : Int) from by first | decide | omega) (show 0 ≤ v80.toInt from by first | exact e81 | omega) (show v80.toInt < (tf 6).toInt from by first | exact e82 | omega) htk hwr _) hT (pr := []) (pcs := [wdP cs h r g tf ta pf na ma wa cf7 ca ef ea xf xa]) hw px_X.tt (px_recv hT hw 0 0 rfl rfl rfl) m12_173 m12_170 m12_172 ms_11_12 m1_21 q_Mpg_bad ⟨Nat.le_of_ble_eq_true rfl, Nat.le_of_ble_eq_true rfl⟩ hl.1 rfl (Nat.le_of_ble_eq_true rfl) d_Mpg_checkPlace_103 ⟨Nat.le_of_ble_eq_true rfl, Nat.le_of_ble_eq_true rfl⟩) hw hA (fun p85 H locs hp85 hw => ?_)
            obtain ⟨cf84, rfl, e87, e88, e89, e90, e91, e92, e93, e94, e95, e96, e97, e98, e99, e100, e101, e102, e103, e104, e105⟩ := hp85
            have e87 : KpE cf7 cf84 := e87
            have hke := (hke).tr e87
            have hkz_e87 := e87.2
            have e88 : WrV cf84 (tf 6).toInt := e88
            have hwr := e88
            have hw0_e88 := hwr.1
            have e89 : 1 ≤ (cf84 30).toInt := e89
            have e90 : (cf84 33).toInt = (cf7 33).toInt := e90
            have e91 : (cf84 38).toInt = (cf7 38).toInt := e91
            have e92 : (cf84 48).toInt = (cf7 48).toInt := e92
            have e93 : (cf84 46).toInt = (cf7 46).toInt := e93
            have e94 : (cf84 47).toInt = (cf7 47).toInt := e94
            have e95 : (cf84 57).toInt = (cf7 57).toInt := e95
            have e96 : (cf84 37).toInt = (cf7 37).toInt := e96
            have e97 : (cf84 42).toInt = (cf7 42).toInt := e97
            have e98 : (cf84 43).toInt = (cf7 43).toInt := e98
            have e99 : (cf84 44).toInt = (cf7 44).toInt := e99
            have e100 : (cf84 45).toInt = (cf7 45).toInt := e100
            have e101 : (cf84 54).toInt = (cf7 54).toInt := e101
            have e102 : (cf84 55).toInt = (cf7 55).toInt := e102
            have e103 : (cf84 58).toInt = (cf7 58).toInt := e103
            have e104 : (cf84 59).toInt = (cf7 59).toInt := e104
            have e105 : (cf84 41).toInt = (cf7 41).toInt := e105
            have hw : pw D A s.heap H locs [wdP cs h r g tf ta pf na ma wa cf84 ca ef ea xf xa] := hw
            exact px_vret S hr hlk hAe hw (Nat.le_of_ble_eq_true rfl) (Nat.le_of_ble_eq_true rfl) (⟨cf84, rfl, (show KpE cf cf84 from hke), (show WrV cf84 (tf 6).toInt from hwr), (show (cf84 33).toInt = (cf 33).toInt from by first | exact oz_1687f4cc65 e13 e90 | omega), (show (cf84 38).toInt = (cf 38).toInt from by first | exact oz_1687f4cc65 e14 e91 | omega), (show (cf84 48).toInt = (cf 48).toInt from by first | exact oz_1687f4cc65 e15 e92 | omega), (show (cf84 46).toInt = (cf 46).toInt from by first | exact oz_1687f4cc65 e16 e93 | omega), (show (cf84 47).toInt = (cf 47).toInt from by first | exact oz_1687f4cc65 e17 e94 | omega), (show (cf84 57).toInt = (cf 57).toInt from by first | exact oz_1687f4cc65 e18 e95 | omega), (show ZPl cf84 na ma p0 p1.toInt from (zr_no (by first | with_reducible rfl | with_reducible assumption | omega)))⟩) d_Mpg_checkPlace_106
        · have nc77 : z76.toInt = (2 : Int) := (i_eq (x := z76) (y := 2)).mp c77
          refine lv_iload_n S.x S.b d_Mpg_checkPlace_60 rfl (lv_at hl 3 rfl) ?_
          refine lv_iconst (v := 1) S.x S.b d_Mpg_checkPlace_61 (by decide) ?_
          refine lv_icmp_ne (tgt := 91) S.x S.b d_Mpg_checkPlace_62 (by decide) (fun c106 => ?_) (fun c106 => ?_)
          · have nc106 : ¬ p1.toInt = (1 : Int) := mt (i_eq (x := p1) (y := 1)).mpr c106
            refine lv_iload_n S.x S.b d_Mpg_checkPlace_91 rfl (lv_at hl 0 rfl) ?_
            refine lv_if_ne (tgt := 106) S.x S.b d_Mpg_checkPlace_92 (by decide) (fun c107 => ?_) (fun c107 => ?_)
            · exact absurd c107 (by decide)
            ·
              refine lv_aload_n S.x S.b d_Mpg_checkPlace_95 rfl (lv_at hl 1 rfl) ?_
              refine lv_bipush (v := 6) S.x S.b d_Mpg_checkPlace_96 (by decide) ?_
              refine lv_aload_n S.x S.b d_Mpg_checkPlace_98 rfl (lv_at hl 1 rfl) ?_
              refine lv_iload_n S.x S.b d_Mpg_checkPlace_99 rfl (lv_at hl 2 rfl) ?_
              refine px_calli (pr := []) (px_runV (As := [.int p0]) (rest := [.int 6, .ref h]) S (c_mp_first l D cs h r g tf ta pf na ma wa cf7 ca ef ea xf xa p0  (show 0 ≤ p0.toInt from by first | exact hrg.2.2 | omega) (show p0.toInt < (pf 13).toInt from by first | exact oz_7319c2f99d g1 hrg.2.1 | omega) (show (pf 13).toInt ≤ 2100 from by first | exact g2 | omega) htk (FsI.le (N' := (pf 13).toInt) hfs (by first | with_reducible rfl | with_reducible assumption | omega)) _) hT (pr := []) (pcs := [wdP cs h r g tf ta pf na ma wa cf7 ca ef ea xf xa]) hw px_X.tt (px_recv hT hw 0 0 rfl rfl rfl) m13_9 m13_6 m13_8 ms_12_15 m1_21 q_Mpg_first ⟨Nat.le_of_ble_eq_true rfl, Nat.le_of_ble_eq_true rfl⟩ hl.1 rfl (Nat.le_of_ble_eq_true rfl) d_Mpg_checkPlace_100 ⟨Nat.le_of_ble_eq_true rfl, Nat.le_of_ble_eq_true rfl⟩) hw hA (fun v109 p108 H locs hp108 hw => ?_)
              obtain ⟨rfl, e110, e111⟩ := hp108
              have e110 : 0 ≤ v109.toInt := e110
              have e111 : v109.toInt < (tf 6).toInt := e111
              have hw : pw D A s.heap H locs [wdP cs h r g tf ta pf na ma wa cf7 ca ef ea xf xa] := hw
              have lv109 := Int32.le_toInt v109
              have uv109 := Int32.toInt_lt v109
              refine px_callv (pr := []) (px_runV (As := [.int 6, .int v109]) (rest := []) S (c_mp_bad l D cs h r g tf ta pf na ma wa ca ef ea xf xa cf7 6 v109  (show 1 ≤ (6 : Int) from by first | decide | omega) (show 0 ≤ v109.toInt from by first | exact e110 | omega) (show v109.toInt < (tf 6).toInt from by first | exact e111 | omega) htk hwr _) hT (pr := []) (pcs := [wdP cs h r g tf ta pf na ma wa cf7 ca ef ea xf xa]) hw px_X.tt (px_recv hT hw 0 0 rfl rfl rfl) m12_173 m12_170 m12_172 ms_11_12 m1_21 q_Mpg_bad ⟨Nat.le_of_ble_eq_true rfl, Nat.le_of_ble_eq_true rfl⟩ hl.1 rfl (Nat.le_of_ble_eq_true rfl) d_Mpg_checkPlace_103 ⟨Nat.le_of_ble_eq_true rfl, Nat.le_of_ble_eq_true rfl⟩) hw hA (fun p114 H locs hp114 hw => ?_)
              obtain ⟨cf113, rfl, e116, e117, e118, e119, e120, e121, e122, e123, e124, e125, e126, e127, e128, e129, e130, e131, e132, e133, e134⟩ := hp114
              have e116 : KpE cf7 cf113 := e116
              have hke := (hke).tr e116
              have hkz_e116 := e116.2
              have e117 : WrV cf113 (tf 6).toInt := e117
              have hwr := e117
              have hw0_e117 := hwr.1
              have e118 : 1 ≤ (cf113 30).toInt := e118
              have e119 : (cf113 33).toInt = (cf7 33).toInt := e119
              have e120 : (cf113 38).toInt = (cf7 38).toInt := e120
              have e121 : (cf113 48).toInt = (cf7 48).toInt := e121
              have e122 : (cf113 46).toInt = (cf7 46).toInt := e122
              have e123 : (cf113 47).toInt = (cf7 47).toInt := e123
              have e124 : (cf113 57).toInt = (cf7 57).toInt := e124
              have e125 : (cf113 37).toInt = (cf7 37).toInt := e125
              have e126 : (cf113 42).toInt = (cf7 42).toInt := e126
              have e127 : (cf113 43).toInt = (cf7 43).toInt := e127
              have e128 : (cf113 44).toInt = (cf7 44).toInt := e128
              have e129 : (cf113 45).toInt = (cf7 45).toInt := e129
              have e130 : (cf113 54).toInt = (cf7 54).toInt := e130
              have e131 : (cf113 55).toInt = (cf7 55).toInt := e131
              have e132 : (cf113 58).toInt = (cf7 58).toInt := e132
              have e133 : (cf113 59).toInt = (cf7 59).toInt := e133
              have e134 : (cf113 41).toInt = (cf7 41).toInt := e134
              have hw : pw D A s.heap H locs [wdP cs h r g tf ta pf na ma wa cf113 ca ef ea xf xa] := hw
              exact px_vret S hr hlk hAe hw (Nat.le_of_ble_eq_true rfl) (Nat.le_of_ble_eq_true rfl) (⟨cf113, rfl, (show KpE cf cf113 from hke), (show WrV cf113 (tf 6).toInt from hwr), (show (cf113 33).toInt = (cf 33).toInt from by first | exact oz_1687f4cc65 e13 e119 | omega), (show (cf113 38).toInt = (cf 38).toInt from by first | exact oz_1687f4cc65 e14 e120 | omega), (show (cf113 48).toInt = (cf 48).toInt from by first | exact oz_1687f4cc65 e15 e121 | omega), (show (cf113 46).toInt = (cf 46).toInt from by first | exact oz_1687f4cc65 e16 e122 | omega), (show (cf113 47).toInt = (cf 47).toInt from by first | exact oz_1687f4cc65 e17 e123 | omega), (show (cf113 57).toInt = (cf 57).toInt from by first | exact oz_1687f4cc65 e18 e124 | omega), (show ZPl cf113 na ma p0 p1.toInt from (zr_no (by first | with_reducible rfl | with_reducible assumption | omega)))⟩) d_Mpg_checkPlace_106
          · have nc106 : p1.toInt = (1 : Int) := (i_eq (x := p1) (y := 1)).mp c106
            refine lv_aload_n S.x S.b d_Mpg_checkPlace_65 rfl (lv_at hl 1 rfl) ?_
            refine px_get S k_Mpg hT hw 0 0 35 (v := .ref (r 35)) rfl rfl rfl (by decide) m10_24 d_Mpg_checkPlace_66 ?_
            refine lv_aload_n S.x S.b d_Mpg_checkPlace_69 rfl (lv_at hl 1 rfl) ?_
            refine lv_aload_n S.x S.b d_Mpg_checkPlace_70 rfl (lv_at hl 1 rfl) ?_
            refine px_get S k_Mpg hT hw 0 0 15 (v := .ref (r 15)) rfl rfl rfl (by decide) m9_239 d_Mpg_checkPlace_71 ?_
            refine lv_iload_n S.x S.b d_Mpg_checkPlace_74 rfl (lv_at hl 2 rfl) ?_
            refine px_iald S hT hw 0 11 (n := 2100) (f := (na 15)) rfl gp_15 (x := p0) (vp_in_iff.mpr (by first | exact oz_a7e05de1cd hrg.2.2 hrg.2.1 g1 g2 | (constructor <;> omega))) d_Mpg_checkPlace_75 ?_
            refine lv_topi (fun z135 ez135 => ?_)
            have lz135 := Int32.le_toInt z135
            have uz135 := Int32.toInt_lt z135
            have rz135 := EcV.tok hec_p0 ez135
            refine lv_iconst (v := 0) S.x S.b d_Mpg_checkPlace_76 (by decide) ?_
            refine px_calli (pr := []) (px_runV (As := [.int z135, .int 0]) (rest := [.ref (r 35)]) S (c_mp_find l D cs h r g tf ta pf na ma wa cf7 ca ef ea xf xa z135 0  (show 0 ≤ z135.toInt from by first | exact rz135.1 | omega) (show z135.toInt < (tf 6).toInt from by first | exact oz_7fe81129bf rz135.2 | omega) (show (tf 6).toInt ≤ 2049 from by first | exact g3 | omega) (show 0 ≤ (0 : Int) from by first | decide | omega) (show 0 ≤ (cf7 33).toInt from by first | exact oz_e2fef14871 e13 g4 g5 | omega) htk (KnT.eq hkt (by first | with_reducible rfl | with_reducible assumption | omega)) _) hT (pr := []) (pcs := [wdP cs h r g tf ta pf na ma wa cf7 ca ef ea xf xa]) hw px_X.tt (px_recv hT hw 0 0 rfl rfl rfl) m12_181 m12_178 m12_180 ms_11_14 m1_21 q_Mpg_find ⟨Nat.le_of_ble_eq_true rfl, Nat.le_of_ble_eq_true rfl⟩ hl.1 rfl (Nat.le_of_ble_eq_true rfl) d_Mpg_checkPlace_77 ⟨Nat.le_of_ble_eq_true rfl, Nat.le_of_ble_eq_true rfl⟩) hw hA (fun v137 p136 H locs hp136 hw => ?_)
            obtain ⟨rfl, e138, e139, e140, e141⟩ := hp136
            have e138 : -1 ≤ v137.toInt := e138
            have e139 : v137.toInt < (cf7 33).toInt := e139
            have e140 : 0 ≤ v137.toInt → (0 : Int) ≤ v137.toInt := e140
            have e141 : FndV ta ca (cf7 33).toInt z135 (0 : Int) v137.toInt := e141
            have hfd := e141
            have hw : pw D A s.heap H locs [wdP cs h r g tf ta pf na ma wa cf7 ca ef ea xf xa] := hw
            have lv137 := Int32.le_toInt v137
            have uv137 := Int32.toInt_lt v137
            have hps := nm_pos (hnj (by first | with_reducible rfl | with_reducible assumption | omega)) (by first | with_reducible rfl | with_reducible assumption | omega) hfd ez135 (by first | with_reducible rfl | with_reducible assumption | omega)
            refine px_iald S hT hw 0 24 (n := 1100) (f := (ca 35)) rfl gp_35 (x := v137) (vp_in_iff.mpr (by constructor <;> omega)) d_Mpg_checkPlace_80 ?_
            refine lv_topi (fun z142 ez142 => ?_)
            have lz142 := Int32.le_toInt z142
            have uz142 := Int32.toInt_lt z142
            refine lv_iconst (v := 1) S.x S.b d_Mpg_checkPlace_81 (by decide) ?_
            refine lv_icmp_ne (tgt := 89) S.x S.b d_Mpg_checkPlace_82 (by decide) (fun c143 => ?_) (fun c143 => ?_)
            · have nc143 : ¬ z142.toInt = (1 : Int) := mt (i_eq (x := z142) (y := 1)).mpr c143
              refine lv_iconst (v := 0) S.x S.b d_Mpg_checkPlace_89 (by decide) ?_
              refine lv_istore_n (lv' := [(3, .int 0), (0, .ref h), (1, .int p0), (2, .int p1)]) S.x S.b d_Mpg_checkPlace_90 rfl hl (by decide) rfl (fun ls hl => ?_)
              refine lv_iload_n S.x S.b d_Mpg_checkPlace_91 rfl (lv_at hl 0 rfl) ?_
              refine lv_if_ne (tgt := 106) S.x S.b d_Mpg_checkPlace_92 (by decide) (fun c144 => ?_) (fun c144 => ?_)
              · exact absurd c144 (by decide)
              ·
                refine lv_aload_n S.x S.b d_Mpg_checkPlace_95 rfl (lv_at hl 1 rfl) ?_
                refine lv_bipush (v := 6) S.x S.b d_Mpg_checkPlace_96 (by decide) ?_
                refine lv_aload_n S.x S.b d_Mpg_checkPlace_98 rfl (lv_at hl 1 rfl) ?_
                refine lv_iload_n S.x S.b d_Mpg_checkPlace_99 rfl (lv_at hl 2 rfl) ?_
                refine px_calli (pr := []) (px_runV (As := [.int p0]) (rest := [.int 6, .ref h]) S (c_mp_first l D cs h r g tf ta pf na ma wa cf7 ca ef ea xf xa p0  (show 0 ≤ p0.toInt from by first | exact hrg.2.2 | omega) (show p0.toInt < (pf 13).toInt from by first | exact oz_7319c2f99d g1 hrg.2.1 | omega) (show (pf 13).toInt ≤ 2100 from by first | exact g2 | omega) htk (FsI.le (N' := (pf 13).toInt) hfs (by first | with_reducible rfl | with_reducible assumption | omega)) _) hT (pr := []) (pcs := [wdP cs h r g tf ta pf na ma wa cf7 ca ef ea xf xa]) hw px_X.tt (px_recv hT hw 0 0 rfl rfl rfl) m13_9 m13_6 m13_8 ms_12_15 m1_21 q_Mpg_first ⟨Nat.le_of_ble_eq_true rfl, Nat.le_of_ble_eq_true rfl⟩ hl.1 rfl (Nat.le_of_ble_eq_true rfl) d_Mpg_checkPlace_100 ⟨Nat.le_of_ble_eq_true rfl, Nat.le_of_ble_eq_true rfl⟩) hw hA (fun v146 p145 H locs hp145 hw => ?_)
                obtain ⟨rfl, e147, e148⟩ := hp145
                have e147 : 0 ≤ v146.toInt := e147
                have e148 : v146.toInt < (tf 6).toInt := e148
                have hw : pw D A s.heap H locs [wdP cs h r g tf ta pf na ma wa cf7 ca ef ea xf xa] := hw
                have lv146 := Int32.le_toInt v146
                have uv146 := Int32.toInt_lt v146
                refine px_callv (pr := []) (px_runV (As := [.int 6, .int v146]) (rest := []) S (c_mp_bad l D cs h r g tf ta pf na ma wa ca ef ea xf xa cf7 6 v146  (show 1 ≤ (6 : Int) from by first | decide | omega) (show 0 ≤ v146.toInt from by first | exact e147 | omega) (show v146.toInt < (tf 6).toInt from by first | exact e148 | omega) htk hwr _) hT (pr := []) (pcs := [wdP cs h r g tf ta pf na ma wa cf7 ca ef ea xf xa]) hw px_X.tt (px_recv hT hw 0 0 rfl rfl rfl) m12_173 m12_170 m12_172 ms_11_12 m1_21 q_Mpg_bad ⟨Nat.le_of_ble_eq_true rfl, Nat.le_of_ble_eq_true rfl⟩ hl.1 rfl (Nat.le_of_ble_eq_true rfl) d_Mpg_checkPlace_103 ⟨Nat.le_of_ble_eq_true rfl, Nat.le_of_ble_eq_true rfl⟩) hw hA (fun p151 H locs hp151 hw => ?_)
                obtain ⟨cf150, rfl, e153, e154, e155, e156, e157, e158, e159, e160, e161, e162, e163, e164, e165, e166, e167, e168, e169, e170, e171⟩ := hp151
                have e153 : KpE cf7 cf150 := e153
                have hke := (hke).tr e153
                have hkz_e153 := e153.2
                have e154 : WrV cf150 (tf 6).toInt := e154
                have hwr := e154
                have hw0_e154 := hwr.1
                have e155 : 1 ≤ (cf150 30).toInt := e155
                have e156 : (cf150 33).toInt = (cf7 33).toInt := e156
                have e157 : (cf150 38).toInt = (cf7 38).toInt := e157
                have e158 : (cf150 48).toInt = (cf7 48).toInt := e158
                have e159 : (cf150 46).toInt = (cf7 46).toInt := e159
                have e160 : (cf150 47).toInt = (cf7 47).toInt := e160
                have e161 : (cf150 57).toInt = (cf7 57).toInt := e161
                have e162 : (cf150 37).toInt = (cf7 37).toInt := e162
                have e163 : (cf150 42).toInt = (cf7 42).toInt := e163
                have e164 : (cf150 43).toInt = (cf7 43).toInt := e164
                have e165 : (cf150 44).toInt = (cf7 44).toInt := e165
                have e166 : (cf150 45).toInt = (cf7 45).toInt := e166
                have e167 : (cf150 54).toInt = (cf7 54).toInt := e167
                have e168 : (cf150 55).toInt = (cf7 55).toInt := e168
                have e169 : (cf150 58).toInt = (cf7 58).toInt := e169
                have e170 : (cf150 59).toInt = (cf7 59).toInt := e170
                have e171 : (cf150 41).toInt = (cf7 41).toInt := e171
                have hw : pw D A s.heap H locs [wdP cs h r g tf ta pf na ma wa cf150 ca ef ea xf xa] := hw
                exact px_vret S hr hlk hAe hw (Nat.le_of_ble_eq_true rfl) (Nat.le_of_ble_eq_true rfl) (⟨cf150, rfl, (show KpE cf cf150 from hke), (show WrV cf150 (tf 6).toInt from hwr), (show (cf150 33).toInt = (cf 33).toInt from by first | exact oz_1687f4cc65 e13 e156 | omega), (show (cf150 38).toInt = (cf 38).toInt from by first | exact oz_1687f4cc65 e14 e157 | omega), (show (cf150 48).toInt = (cf 48).toInt from by first | exact oz_1687f4cc65 e15 e158 | omega), (show (cf150 46).toInt = (cf 46).toInt from by first | exact oz_1687f4cc65 e16 e159 | omega), (show (cf150 47).toInt = (cf 47).toInt from by first | exact oz_1687f4cc65 e17 e160 | omega), (show (cf150 57).toInt = (cf 57).toInt from by first | exact oz_1687f4cc65 e18 e161 | omega), (show ZPl cf150 na ma p0 p1.toInt from (zr_no (by first | with_reducible rfl | with_reducible assumption | omega)))⟩) d_Mpg_checkPlace_106
            · have nc143 : z142.toInt = (1 : Int) := (i_eq (x := z142) (y := 1)).mp c143
              refine lv_iconst (v := 1) S.x S.b d_Mpg_checkPlace_85 (by decide) ?_
              refine lv_goto (tgt := 90) S.x S.b d_Mpg_checkPlace_86 (by decide) ?_
              refine lv_istore_n (lv' := [(3, .int 1), (0, .ref h), (1, .int p0), (2, .int p1)]) S.x S.b d_Mpg_checkPlace_90 rfl hl (by decide) rfl (fun ls hl => ?_)
              refine lv_iload_n S.x S.b d_Mpg_checkPlace_91 rfl (lv_at hl 0 rfl) ?_
              refine lv_if_ne (tgt := 106) S.x S.b d_Mpg_checkPlace_92 (by decide) (fun c172 => ?_) (fun c172 => ?_)
              ·
                exact px_vret S hr hlk hAe hw (Nat.le_of_ble_eq_true rfl) (Nat.le_of_ble_eq_true rfl) (⟨cf7, rfl, (show KpE cf cf7 from hke), (show WrV cf7 (tf 6).toInt from hwr), (show (cf7 33).toInt = (cf 33).toInt from by first | exact e13 | omega), (show (cf7 38).toInt = (cf 38).toInt from by first | exact e14 | omega), (show (cf7 48).toInt = (cf 48).toInt from by first | exact e15 | omega), (show (cf7 46).toInt = (cf 46).toInt from by first | exact e16 | omega), (show (cf7 47).toInt = (cf 47).toInt from by first | exact e17 | omega), (show (cf7 57).toInt = (cf 57).toInt from by first | exact e18 | omega), (show ZPl cf7 na ma p0 p1.toInt from (zr_no (by first | with_reducible rfl | with_reducible assumption | omega)))⟩) d_Mpg_checkPlace_106
              · exact absurd c172 (by decide)
      · have nc75 : z74.toInt = (2 : Int) := (i_eq (x := z74) (y := 2)).mp c75
        refine lv_iload_n S.x S.b d_Mpg_checkPlace_40 rfl (lv_at hl 2 rfl) ?_
        refine lv_if_ne (tgt := 48) S.x S.b d_Mpg_checkPlace_41 (by decide) (fun c173 => ?_) (fun c173 => ?_)
        · have nc173 : ¬ p1.toInt = (0 : Int) := mt (i_eq (x := p1) (y := 0)).mpr c173
          refine lv_iconst (v := 0) S.x S.b d_Mpg_checkPlace_48 (by decide) ?_
          refine lv_istore_n (lv' := [(3, .int 0), (0, .ref h), (1, .int p0), (2, .int p1)]) S.x S.b d_Mpg_checkPlace_49 rfl hl (by decide) rfl (fun ls hl => ?_)
          refine lv_aload_n S.x S.b d_Mpg_checkPlace_50 rfl (lv_at hl 1 rfl) ?_
          refine px_get S k_Mpg hT hw 0 0 14 (v := .ref (r 14)) rfl rfl rfl (by decide) m9_238 d_Mpg_checkPlace_51 ?_
          refine lv_iload_n S.x S.b d_Mpg_checkPlace_54 rfl (lv_at hl 2 rfl) ?_
          refine px_bald S hT hw 0 10 (n := 2100) (f := (na 14)) rfl gp_14 (x := p0) (vp_in_iff.mpr (by first | exact oz_a7e05de1cd hrg.2.2 hrg.2.1 g1 g2 | (constructor <;> omega))) d_Mpg_checkPlace_55 ?_
          refine lv_topi (fun z174 ez174 => ?_)
          have lz174 := Int32.le_toInt z174
          have uz174 := Int32.toInt_lt z174
          have rz174 := EcV.kd hec_p0 ez174
          refine lv_iconst (v := 2) S.x S.b d_Mpg_checkPlace_56 (by decide) ?_
          refine lv_icmp_ne (tgt := 91) S.x S.b d_Mpg_checkPlace_57 (by decide) (fun c175 => ?_) (fun c175 => ?_)
          · have nc175 : ¬ z174.toInt = (2 : Int) := mt (i_eq (x := z174) (y := 2)).mpr c175
            refine lv_iload_n S.x S.b d_Mpg_checkPlace_91 rfl (lv_at hl 0 rfl) ?_
            refine lv_if_ne (tgt := 106) S.x S.b d_Mpg_checkPlace_92 (by decide) (fun c176 => ?_) (fun c176 => ?_)
            · exact absurd c176 (by decide)
            ·
              refine lv_aload_n S.x S.b d_Mpg_checkPlace_95 rfl (lv_at hl 1 rfl) ?_
              refine lv_bipush (v := 6) S.x S.b d_Mpg_checkPlace_96 (by decide) ?_
              refine lv_aload_n S.x S.b d_Mpg_checkPlace_98 rfl (lv_at hl 1 rfl) ?_
              refine lv_iload_n S.x S.b d_Mpg_checkPlace_99 rfl (lv_at hl 2 rfl) ?_
              refine px_calli (pr := []) (px_runV (As := [.int p0]) (rest := [.int 6, .ref h]) S (c_mp_first l D cs h r g tf ta pf na ma wa cf7 ca ef ea xf xa p0  (show 0 ≤ p0.toInt from by first | exact hrg.2.2 | omega) (show p0.toInt < (pf 13).toInt from by first | exact oz_7319c2f99d g1 hrg.2.1 | omega) (show (pf 13).toInt ≤ 2100 from by first | exact g2 | omega) htk (FsI.le (N' := (pf 13).toInt) hfs (by first | with_reducible rfl | with_reducible assumption | omega)) _) hT (pr := []) (pcs := [wdP cs h r g tf ta pf na ma wa cf7 ca ef ea xf xa]) hw px_X.tt (px_recv hT hw 0 0 rfl rfl rfl) m13_9 m13_6 m13_8 ms_12_15 m1_21 q_Mpg_first ⟨Nat.le_of_ble_eq_true rfl, Nat.le_of_ble_eq_true rfl⟩ hl.1 rfl (Nat.le_of_ble_eq_true rfl) d_Mpg_checkPlace_100 ⟨Nat.le_of_ble_eq_true rfl, Nat.le_of_ble_eq_true rfl⟩) hw hA (fun v178 p177 H locs hp177 hw => ?_)
              obtain ⟨rfl, e179, e180⟩ := hp177
              have e179 : 0 ≤ v178.toInt := e179
              have e180 : v178.toInt < (tf 6).toInt := e180
              have hw : pw D A s.heap H locs [wdP cs h r g tf ta pf na ma wa cf7 ca ef ea xf xa] := hw
              have lv178 := Int32.le_toInt v178
              have uv178 := Int32.toInt_lt v178
              refine px_callv (pr := []) (px_runV (As := [.int 6, .int v178]) (rest := []) S (c_mp_bad l D cs h r g tf ta pf na ma wa ca ef ea xf xa cf7 6 v178  (show 1 ≤ (6 : Int) from by first | decide | omega) (show 0 ≤ v178.toInt from by first | exact e179 | omega) (show v178.toInt < (tf 6).toInt from by first | exact e180 | omega) htk hwr _) hT (pr := []) (pcs := [wdP cs h r g tf ta pf na ma wa cf7 ca ef ea xf xa]) hw px_X.tt (px_recv hT hw 0 0 rfl rfl rfl) m12_173 m12_170 m12_172 ms_11_12 m1_21 q_Mpg_bad ⟨Nat.le_of_ble_eq_true rfl, Nat.le_of_ble_eq_true rfl⟩ hl.1 rfl (Nat.le_of_ble_eq_true rfl) d_Mpg_checkPlace_103 ⟨Nat.le_of_ble_eq_true rfl, Nat.le_of_ble_eq_true rfl⟩) hw hA (fun p183 H locs hp183 hw => ?_)
              obtain ⟨cf182, rfl, e185, e186, e187, e188, e189, e190, e191, e192, e193, e194, e195, e196, e197, e198, e199, e200, e201, e202, e203⟩ := hp183
              have e185 : KpE cf7 cf182 := e185
              have hke := (hke).tr e185
              have hkz_e185 := e185.2
              have e186 : WrV cf182 (tf 6).toInt := e186
              have hwr := e186
              have hw0_e186 := hwr.1
              have e187 : 1 ≤ (cf182 30).toInt := e187
              have e188 : (cf182 33).toInt = (cf7 33).toInt := e188
              have e189 : (cf182 38).toInt = (cf7 38).toInt := e189
              have e190 : (cf182 48).toInt = (cf7 48).toInt := e190
              have e191 : (cf182 46).toInt = (cf7 46).toInt := e191
              have e192 : (cf182 47).toInt = (cf7 47).toInt := e192
              have e193 : (cf182 57).toInt = (cf7 57).toInt := e193
              have e194 : (cf182 37).toInt = (cf7 37).toInt := e194
              have e195 : (cf182 42).toInt = (cf7 42).toInt := e195
              have e196 : (cf182 43).toInt = (cf7 43).toInt := e196
              have e197 : (cf182 44).toInt = (cf7 44).toInt := e197
              have e198 : (cf182 45).toInt = (cf7 45).toInt := e198
              have e199 : (cf182 54).toInt = (cf7 54).toInt := e199
              have e200 : (cf182 55).toInt = (cf7 55).toInt := e200
              have e201 : (cf182 58).toInt = (cf7 58).toInt := e201
              have e202 : (cf182 59).toInt = (cf7 59).toInt := e202
              have e203 : (cf182 41).toInt = (cf7 41).toInt := e203
              have hw : pw D A s.heap H locs [wdP cs h r g tf ta pf na ma wa cf182 ca ef ea xf xa] := hw
              exact px_vret S hr hlk hAe hw (Nat.le_of_ble_eq_true rfl) (Nat.le_of_ble_eq_true rfl) (⟨cf182, rfl, (show KpE cf cf182 from hke), (show WrV cf182 (tf 6).toInt from hwr), (show (cf182 33).toInt = (cf 33).toInt from by first | exact oz_1687f4cc65 e13 e188 | omega), (show (cf182 38).toInt = (cf 38).toInt from by first | exact oz_1687f4cc65 e14 e189 | omega), (show (cf182 48).toInt = (cf 48).toInt from by first | exact oz_1687f4cc65 e15 e190 | omega), (show (cf182 46).toInt = (cf 46).toInt from by first | exact oz_1687f4cc65 e16 e191 | omega), (show (cf182 47).toInt = (cf 47).toInt from by first | exact oz_1687f4cc65 e17 e192 | omega), (show (cf182 57).toInt = (cf 57).toInt from by first | exact oz_1687f4cc65 e18 e193 | omega), (show ZPl cf182 na ma p0 p1.toInt from (zr_no (by first | with_reducible rfl | with_reducible assumption | omega)))⟩) d_Mpg_checkPlace_106
          · have nc175 : z174.toInt = (2 : Int) := (i_eq (x := z174) (y := 2)).mp c175
            refine lv_iload_n S.x S.b d_Mpg_checkPlace_60 rfl (lv_at hl 3 rfl) ?_
            refine lv_iconst (v := 1) S.x S.b d_Mpg_checkPlace_61 (by decide) ?_
            refine lv_icmp_ne (tgt := 91) S.x S.b d_Mpg_checkPlace_62 (by decide) (fun c204 => ?_) (fun c204 => ?_)
            · have nc204 : ¬ p1.toInt = (1 : Int) := mt (i_eq (x := p1) (y := 1)).mpr c204
              refine lv_iload_n S.x S.b d_Mpg_checkPlace_91 rfl (lv_at hl 0 rfl) ?_
              refine lv_if_ne (tgt := 106) S.x S.b d_Mpg_checkPlace_92 (by decide) (fun c205 => ?_) (fun c205 => ?_)
              · exact absurd c205 (by decide)
              ·
                refine lv_aload_n S.x S.b d_Mpg_checkPlace_95 rfl (lv_at hl 1 rfl) ?_
                refine lv_bipush (v := 6) S.x S.b d_Mpg_checkPlace_96 (by decide) ?_
                refine lv_aload_n S.x S.b d_Mpg_checkPlace_98 rfl (lv_at hl 1 rfl) ?_
                refine lv_iload_n S.x S.b d_Mpg_checkPlace_99 rfl (lv_at hl 2 rfl) ?_
                refine px_calli (pr := []) (px_runV (As := [.int p0]) (rest := [.int 6, .ref h]) S (c_mp_first l D cs h r g tf ta pf na ma wa cf7 ca ef ea xf xa p0  (show 0 ≤ p0.toInt from by first | exact hrg.2.2 | omega) (show p0.toInt < (pf 13).toInt from by first | exact oz_7319c2f99d g1 hrg.2.1 | omega) (show (pf 13).toInt ≤ 2100 from by first | exact g2 | omega) htk (FsI.le (N' := (pf 13).toInt) hfs (by first | with_reducible rfl | with_reducible assumption | omega)) _) hT (pr := []) (pcs := [wdP cs h r g tf ta pf na ma wa cf7 ca ef ea xf xa]) hw px_X.tt (px_recv hT hw 0 0 rfl rfl rfl) m13_9 m13_6 m13_8 ms_12_15 m1_21 q_Mpg_first ⟨Nat.le_of_ble_eq_true rfl, Nat.le_of_ble_eq_true rfl⟩ hl.1 rfl (Nat.le_of_ble_eq_true rfl) d_Mpg_checkPlace_100 ⟨Nat.le_of_ble_eq_true rfl, Nat.le_of_ble_eq_true rfl⟩) hw hA (fun v207 p206 H locs hp206 hw => ?_)
                obtain ⟨rfl, e208, e209⟩ := hp206
                have e208 : 0 ≤ v207.toInt := e208
                have e209 : v207.toInt < (tf 6).toInt := e209
                have hw : pw D A s.heap H locs [wdP cs h r g tf ta pf na ma wa cf7 ca ef ea xf xa] := hw
                have lv207 := Int32.le_toInt v207
                have uv207 := Int32.toInt_lt v207
                refine px_callv (pr := []) (px_runV (As := [.int 6, .int v207]) (rest := []) S (c_mp_bad l D cs h r g tf ta pf na ma wa ca ef ea xf xa cf7 6 v207  (show 1 ≤ (6 : Int) from by first | decide | omega) (show 0 ≤ v207.toInt from by first | exact e208 | omega) (show v207.toInt < (tf 6).toInt from by first | exact e209 | omega) htk hwr _) hT (pr := []) (pcs := [wdP cs h r g tf ta pf na ma wa cf7 ca ef ea xf xa]) hw px_X.tt (px_recv hT hw 0 0 rfl rfl rfl) m12_173 m12_170 m12_172 ms_11_12 m1_21 q_Mpg_bad ⟨Nat.le_of_ble_eq_true rfl, Nat.le_of_ble_eq_true rfl⟩ hl.1 rfl (Nat.le_of_ble_eq_true rfl) d_Mpg_checkPlace_103 ⟨Nat.le_of_ble_eq_true rfl, Nat.le_of_ble_eq_true rfl⟩) hw hA (fun p212 H locs hp212 hw => ?_)
                obtain ⟨cf211, rfl, e214, e215, e216, e217, e218, e219, e220, e221, e222, e223, e224, e225, e226, e227, e228, e229, e230, e231, e232⟩ := hp212
                have e214 : KpE cf7 cf211 := e214
                have hke := (hke).tr e214
                have hkz_e214 := e214.2
                have e215 : WrV cf211 (tf 6).toInt := e215
                have hwr := e215
                have hw0_e215 := hwr.1
                have e216 : 1 ≤ (cf211 30).toInt := e216
                have e217 : (cf211 33).toInt = (cf7 33).toInt := e217
                have e218 : (cf211 38).toInt = (cf7 38).toInt := e218
                have e219 : (cf211 48).toInt = (cf7 48).toInt := e219
                have e220 : (cf211 46).toInt = (cf7 46).toInt := e220
                have e221 : (cf211 47).toInt = (cf7 47).toInt := e221
                have e222 : (cf211 57).toInt = (cf7 57).toInt := e222
                have e223 : (cf211 37).toInt = (cf7 37).toInt := e223
                have e224 : (cf211 42).toInt = (cf7 42).toInt := e224
                have e225 : (cf211 43).toInt = (cf7 43).toInt := e225
                have e226 : (cf211 44).toInt = (cf7 44).toInt := e226
                have e227 : (cf211 45).toInt = (cf7 45).toInt := e227
                have e228 : (cf211 54).toInt = (cf7 54).toInt := e228
                have e229 : (cf211 55).toInt = (cf7 55).toInt := e229
                have e230 : (cf211 58).toInt = (cf7 58).toInt := e230
                have e231 : (cf211 59).toInt = (cf7 59).toInt := e231
                have e232 : (cf211 41).toInt = (cf7 41).toInt := e232
                have hw : pw D A s.heap H locs [wdP cs h r g tf ta pf na ma wa cf211 ca ef ea xf xa] := hw
                exact px_vret S hr hlk hAe hw (Nat.le_of_ble_eq_true rfl) (Nat.le_of_ble_eq_true rfl) (⟨cf211, rfl, (show KpE cf cf211 from hke), (show WrV cf211 (tf 6).toInt from hwr), (show (cf211 33).toInt = (cf 33).toInt from by first | exact oz_1687f4cc65 e13 e217 | omega), (show (cf211 38).toInt = (cf 38).toInt from by first | exact oz_1687f4cc65 e14 e218 | omega), (show (cf211 48).toInt = (cf 48).toInt from by first | exact oz_1687f4cc65 e15 e219 | omega), (show (cf211 46).toInt = (cf 46).toInt from by first | exact oz_1687f4cc65 e16 e220 | omega), (show (cf211 47).toInt = (cf 47).toInt from by first | exact oz_1687f4cc65 e17 e221 | omega), (show (cf211 57).toInt = (cf 57).toInt from by first | exact oz_1687f4cc65 e18 e222 | omega), (show ZPl cf211 na ma p0 p1.toInt from (zr_no (by first | with_reducible rfl | with_reducible assumption | omega)))⟩) d_Mpg_checkPlace_106
            · have nc204 : p1.toInt = (1 : Int) := (i_eq (x := p1) (y := 1)).mp c204
              refine lv_aload_n S.x S.b d_Mpg_checkPlace_65 rfl (lv_at hl 1 rfl) ?_
              refine px_get S k_Mpg hT hw 0 0 35 (v := .ref (r 35)) rfl rfl rfl (by decide) m10_24 d_Mpg_checkPlace_66 ?_
              refine lv_aload_n S.x S.b d_Mpg_checkPlace_69 rfl (lv_at hl 1 rfl) ?_
              refine lv_aload_n S.x S.b d_Mpg_checkPlace_70 rfl (lv_at hl 1 rfl) ?_
              refine px_get S k_Mpg hT hw 0 0 15 (v := .ref (r 15)) rfl rfl rfl (by decide) m9_239 d_Mpg_checkPlace_71 ?_
              refine lv_iload_n S.x S.b d_Mpg_checkPlace_74 rfl (lv_at hl 2 rfl) ?_
              refine px_iald S hT hw 0 11 (n := 2100) (f := (na 15)) rfl gp_15 (x := p0) (vp_in_iff.mpr (by first | exact oz_a7e05de1cd hrg.2.2 hrg.2.1 g1 g2 | (constructor <;> omega))) d_Mpg_checkPlace_75 ?_
              refine lv_topi (fun z233 ez233 => ?_)
              have lz233 := Int32.le_toInt z233
              have uz233 := Int32.toInt_lt z233
              have rz233 := EcV.tok hec_p0 ez233
              refine lv_iconst (v := 0) S.x S.b d_Mpg_checkPlace_76 (by decide) ?_
              refine px_calli (pr := []) (px_runV (As := [.int z233, .int 0]) (rest := [.ref (r 35)]) S (c_mp_find l D cs h r g tf ta pf na ma wa cf7 ca ef ea xf xa z233 0  (show 0 ≤ z233.toInt from by first | exact rz233.1 | omega) (show z233.toInt < (tf 6).toInt from by first | exact oz_7fe81129bf rz233.2 | omega) (show (tf 6).toInt ≤ 2049 from by first | exact g3 | omega) (show 0 ≤ (0 : Int) from by first | decide | omega) (show 0 ≤ (cf7 33).toInt from by first | exact oz_e2fef14871 e13 g4 g5 | omega) htk (KnT.eq hkt (by first | with_reducible rfl | with_reducible assumption | omega)) _) hT (pr := []) (pcs := [wdP cs h r g tf ta pf na ma wa cf7 ca ef ea xf xa]) hw px_X.tt (px_recv hT hw 0 0 rfl rfl rfl) m12_181 m12_178 m12_180 ms_11_14 m1_21 q_Mpg_find ⟨Nat.le_of_ble_eq_true rfl, Nat.le_of_ble_eq_true rfl⟩ hl.1 rfl (Nat.le_of_ble_eq_true rfl) d_Mpg_checkPlace_77 ⟨Nat.le_of_ble_eq_true rfl, Nat.le_of_ble_eq_true rfl⟩) hw hA (fun v235 p234 H locs hp234 hw => ?_)
              obtain ⟨rfl, e236, e237, e238, e239⟩ := hp234
              have e236 : -1 ≤ v235.toInt := e236
              have e237 : v235.toInt < (cf7 33).toInt := e237
              have e238 : 0 ≤ v235.toInt → (0 : Int) ≤ v235.toInt := e238
              have e239 : FndV ta ca (cf7 33).toInt z233 (0 : Int) v235.toInt := e239
              have hfd := e239
              have hw : pw D A s.heap H locs [wdP cs h r g tf ta pf na ma wa cf7 ca ef ea xf xa] := hw
              have lv235 := Int32.le_toInt v235
              have uv235 := Int32.toInt_lt v235
              have hps := nm_pos (hnj (by first | with_reducible rfl | with_reducible assumption | omega)) (by first | with_reducible rfl | with_reducible assumption | omega) hfd ez233 (by first | with_reducible rfl | with_reducible assumption | omega)
              refine px_iald S hT hw 0 24 (n := 1100) (f := (ca 35)) rfl gp_35 (x := v235) (vp_in_iff.mpr (by constructor <;> omega)) d_Mpg_checkPlace_80 ?_
              refine lv_topi (fun z240 ez240 => ?_)
              have lz240 := Int32.le_toInt z240
              have uz240 := Int32.toInt_lt z240
              refine lv_iconst (v := 1) S.x S.b d_Mpg_checkPlace_81 (by decide) ?_
              refine lv_icmp_ne (tgt := 89) S.x S.b d_Mpg_checkPlace_82 (by decide) (fun c241 => ?_) (fun c241 => ?_)
              · have nc241 : ¬ z240.toInt = (1 : Int) := mt (i_eq (x := z240) (y := 1)).mpr c241
                refine lv_iconst (v := 0) S.x S.b d_Mpg_checkPlace_89 (by decide) ?_
                refine lv_istore_n (lv' := [(3, .int 0), (0, .ref h), (1, .int p0), (2, .int p1)]) S.x S.b d_Mpg_checkPlace_90 rfl hl (by decide) rfl (fun ls hl => ?_)
                refine lv_iload_n S.x S.b d_Mpg_checkPlace_91 rfl (lv_at hl 0 rfl) ?_
                refine lv_if_ne (tgt := 106) S.x S.b d_Mpg_checkPlace_92 (by decide) (fun c242 => ?_) (fun c242 => ?_)
                · exact absurd c242 (by decide)
                ·
                  refine lv_aload_n S.x S.b d_Mpg_checkPlace_95 rfl (lv_at hl 1 rfl) ?_
                  refine lv_bipush (v := 6) S.x S.b d_Mpg_checkPlace_96 (by decide) ?_
                  refine lv_aload_n S.x S.b d_Mpg_checkPlace_98 rfl (lv_at hl 1 rfl) ?_
                  refine lv_iload_n S.x S.b d_Mpg_checkPlace_99 rfl (lv_at hl 2 rfl) ?_
                  refine px_calli (pr := []) (px_runV (As := [.int p0]) (rest := [.int 6, .ref h]) S (c_mp_first l D cs h r g tf ta pf na ma wa cf7 ca ef ea xf xa p0  (show 0 ≤ p0.toInt from by first | exact hrg.2.2 | omega) (show p0.toInt < (pf 13).toInt from by first | exact oz_7319c2f99d g1 hrg.2.1 | omega) (show (pf 13).toInt ≤ 2100 from by first | exact g2 | omega) htk (FsI.le (N' := (pf 13).toInt) hfs (by first | with_reducible rfl | with_reducible assumption | omega)) _) hT (pr := []) (pcs := [wdP cs h r g tf ta pf na ma wa cf7 ca ef ea xf xa]) hw px_X.tt (px_recv hT hw 0 0 rfl rfl rfl) m13_9 m13_6 m13_8 ms_12_15 m1_21 q_Mpg_first ⟨Nat.le_of_ble_eq_true rfl, Nat.le_of_ble_eq_true rfl⟩ hl.1 rfl (Nat.le_of_ble_eq_true rfl) d_Mpg_checkPlace_100 ⟨Nat.le_of_ble_eq_true rfl, Nat.le_of_ble_eq_true rfl⟩) hw hA (fun v244 p243 H locs hp243 hw => ?_)
                  obtain ⟨rfl, e245, e246⟩ := hp243
                  have e245 : 0 ≤ v244.toInt := e245
                  have e246 : v244.toInt < (tf 6).toInt := e246
                  have hw : pw D A s.heap H locs [wdP cs h r g tf ta pf na ma wa cf7 ca ef ea xf xa] := hw
                  have lv244 := Int32.le_toInt v244
                  have uv244 := Int32.toInt_lt v244
                  refine px_callv (pr := []) (px_runV (As := [.int 6, .int v244]) (rest := []) S (c_mp_bad l D cs h r g tf ta pf na ma wa ca ef ea xf xa cf7 6 v244  (show 1 ≤ (6 : Int) from by first | decide | omega) (show 0 ≤ v244.toInt from by first | exact e245 | omega) (show v244.toInt < (tf 6).toInt from by first | exact e246 | omega) htk hwr _) hT (pr := []) (pcs := [wdP cs h r g tf ta pf na ma wa cf7 ca ef ea xf xa]) hw px_X.tt (px_recv hT hw 0 0 rfl rfl rfl) m12_173 m12_170 m12_172 ms_11_12 m1_21 q_Mpg_bad ⟨Nat.le_of_ble_eq_true rfl, Nat.le_of_ble_eq_true rfl⟩ hl.1 rfl (Nat.le_of_ble_eq_true rfl) d_Mpg_checkPlace_103 ⟨Nat.le_of_ble_eq_true rfl, Nat.le_of_ble_eq_true rfl⟩) hw hA (fun p249 H locs hp249 hw => ?_)
                  obtain ⟨cf248, rfl, e251, e252, e253, e254, e255, e256, e257, e258, e259, e260, e261, e262, e263, e264, e265, e266, e267, e268, e269⟩ := hp249
                  have e251 : KpE cf7 cf248 := e251
                  have hke := (hke).tr e251
                  have hkz_e251 := e251.2
                  have e252 : WrV cf248 (tf 6).toInt := e252
                  have hwr := e252
                  have hw0_e252 := hwr.1
                  have e253 : 1 ≤ (cf248 30).toInt := e253
                  have e254 : (cf248 33).toInt = (cf7 33).toInt := e254
                  have e255 : (cf248 38).toInt = (cf7 38).toInt := e255
                  have e256 : (cf248 48).toInt = (cf7 48).toInt := e256
                  have e257 : (cf248 46).toInt = (cf7 46).toInt := e257
                  have e258 : (cf248 47).toInt = (cf7 47).toInt := e258
                  have e259 : (cf248 57).toInt = (cf7 57).toInt := e259
                  have e260 : (cf248 37).toInt = (cf7 37).toInt := e260
                  have e261 : (cf248 42).toInt = (cf7 42).toInt := e261
                  have e262 : (cf248 43).toInt = (cf7 43).toInt := e262
                  have e263 : (cf248 44).toInt = (cf7 44).toInt := e263
                  have e264 : (cf248 45).toInt = (cf7 45).toInt := e264
                  have e265 : (cf248 54).toInt = (cf7 54).toInt := e265
                  have e266 : (cf248 55).toInt = (cf7 55).toInt := e266
                  have e267 : (cf248 58).toInt = (cf7 58).toInt := e267
                  have e268 : (cf248 59).toInt = (cf7 59).toInt := e268
                  have e269 : (cf248 41).toInt = (cf7 41).toInt := e269
                  have hw : pw D A s.heap H locs [wdP cs h r g tf ta pf na ma wa cf248 ca ef ea xf xa] := hw
                  exact px_vret S hr hlk hAe hw (Nat.le_of_ble_eq_true rfl) (Nat.le_of_ble_eq_true rfl) (⟨cf248, rfl, (show KpE cf cf248 from hke), (show WrV cf248 (tf 6).toInt from hwr), (show (cf248 33).toInt = (cf 33).toInt from by first | exact oz_1687f4cc65 e13 e254 | omega), (show (cf248 38).toInt = (cf 38).toInt from by first | exact oz_1687f4cc65 e14 e255 | omega), (show (cf248 48).toInt = (cf 48).toInt from by first | exact oz_1687f4cc65 e15 e256 | omega), (show (cf248 46).toInt = (cf 46).toInt from by first | exact oz_1687f4cc65 e16 e257 | omega), (show (cf248 47).toInt = (cf 47).toInt from by first | exact oz_1687f4cc65 e17 e258 | omega), (show (cf248 57).toInt = (cf 57).toInt from by first | exact oz_1687f4cc65 e18 e259 | omega), (show ZPl cf248 na ma p0 p1.toInt from (zr_no (by first | with_reducible rfl | with_reducible assumption | omega)))⟩) d_Mpg_checkPlace_106
              · have nc241 : z240.toInt = (1 : Int) := (i_eq (x := z240) (y := 1)).mp c241
                refine lv_iconst (v := 1) S.x S.b d_Mpg_checkPlace_85 (by decide) ?_
                refine lv_goto (tgt := 90) S.x S.b d_Mpg_checkPlace_86 (by decide) ?_
                refine lv_istore_n (lv' := [(3, .int 1), (0, .ref h), (1, .int p0), (2, .int p1)]) S.x S.b d_Mpg_checkPlace_90 rfl hl (by decide) rfl (fun ls hl => ?_)
                refine lv_iload_n S.x S.b d_Mpg_checkPlace_91 rfl (lv_at hl 0 rfl) ?_
                refine lv_if_ne (tgt := 106) S.x S.b d_Mpg_checkPlace_92 (by decide) (fun c270 => ?_) (fun c270 => ?_)
                ·
                  exact px_vret S hr hlk hAe hw (Nat.le_of_ble_eq_true rfl) (Nat.le_of_ble_eq_true rfl) (⟨cf7, rfl, (show KpE cf cf7 from hke), (show WrV cf7 (tf 6).toInt from hwr), (show (cf7 33).toInt = (cf 33).toInt from by first | exact e13 | omega), (show (cf7 38).toInt = (cf 38).toInt from by first | exact e14 | omega), (show (cf7 48).toInt = (cf 48).toInt from by first | exact e15 | omega), (show (cf7 46).toInt = (cf 46).toInt from by first | exact e16 | omega), (show (cf7 47).toInt = (cf 47).toInt from by first | exact e17 | omega), (show (cf7 57).toInt = (cf 57).toInt from by first | exact e18 | omega), (show ZPl cf7 na ma p0 p1.toInt from (zr_no (by first | with_reducible rfl | with_reducible assumption | omega)))⟩) d_Mpg_checkPlace_106
                · exact absurd c270 (by decide)
        · have nc173 : p1.toInt = (0 : Int) := (i_eq (x := p1) (y := 0)).mp c173
          refine lv_iconst (v := 1) S.x S.b d_Mpg_checkPlace_44 (by decide) ?_
          refine lv_goto (tgt := 49) S.x S.b d_Mpg_checkPlace_45 (by decide) ?_
          refine lv_istore_n (lv' := [(3, .int 1), (0, .ref h), (1, .int p0), (2, .int p1)]) S.x S.b d_Mpg_checkPlace_49 rfl hl (by decide) rfl (fun ls hl => ?_)
          refine lv_aload_n S.x S.b d_Mpg_checkPlace_50 rfl (lv_at hl 1 rfl) ?_
          refine px_get S k_Mpg hT hw 0 0 14 (v := .ref (r 14)) rfl rfl rfl (by decide) m9_238 d_Mpg_checkPlace_51 ?_
          refine lv_iload_n S.x S.b d_Mpg_checkPlace_54 rfl (lv_at hl 2 rfl) ?_
          refine px_bald S hT hw 0 10 (n := 2100) (f := (na 14)) rfl gp_14 (x := p0) (vp_in_iff.mpr (by first | exact oz_a7e05de1cd hrg.2.2 hrg.2.1 g1 g2 | (constructor <;> omega))) d_Mpg_checkPlace_55 ?_
          refine lv_topi (fun z271 ez271 => ?_)
          have lz271 := Int32.le_toInt z271
          have uz271 := Int32.toInt_lt z271
          have rz271 := EcV.kd hec_p0 ez271
          refine lv_iconst (v := 2) S.x S.b d_Mpg_checkPlace_56 (by decide) ?_
          refine lv_icmp_ne (tgt := 91) S.x S.b d_Mpg_checkPlace_57 (by decide) (fun c272 => ?_) (fun c272 => ?_)
          · have nc272 : ¬ z271.toInt = (2 : Int) := mt (i_eq (x := z271) (y := 2)).mpr c272
            refine lv_iload_n S.x S.b d_Mpg_checkPlace_91 rfl (lv_at hl 0 rfl) ?_
            refine lv_if_ne (tgt := 106) S.x S.b d_Mpg_checkPlace_92 (by decide) (fun c273 => ?_) (fun c273 => ?_)
            ·
              exact px_vret S hr hlk hAe hw (Nat.le_of_ble_eq_true rfl) (Nat.le_of_ble_eq_true rfl) (⟨cf7, rfl, (show KpE cf cf7 from hke), (show WrV cf7 (tf 6).toInt from hwr), (show (cf7 33).toInt = (cf 33).toInt from by first | exact e13 | omega), (show (cf7 38).toInt = (cf 38).toInt from by first | exact e14 | omega), (show (cf7 48).toInt = (cf 48).toInt from by first | exact e15 | omega), (show (cf7 46).toInt = (cf 46).toInt from by first | exact e16 | omega), (show (cf7 47).toInt = (cf 47).toInt from by first | exact e17 | omega), (show (cf7 57).toInt = (cf 57).toInt from by first | exact e18 | omega), (show ZPl cf7 na ma p0 p1.toInt from (zr_no (by first | with_reducible rfl | with_reducible assumption | omega)))⟩) d_Mpg_checkPlace_106
            · exact absurd c273 (by decide)
          · have nc272 : z271.toInt = (2 : Int) := (i_eq (x := z271) (y := 2)).mp c272
            refine lv_iload_n S.x S.b d_Mpg_checkPlace_60 rfl (lv_at hl 3 rfl) ?_
            refine lv_iconst (v := 1) S.x S.b d_Mpg_checkPlace_61 (by decide) ?_
            refine lv_icmp_ne (tgt := 91) S.x S.b d_Mpg_checkPlace_62 (by decide) (fun c274 => ?_) (fun c274 => ?_)
            · have nc274 : ¬ p1.toInt = (1 : Int) := mt (i_eq (x := p1) (y := 1)).mpr c274
              refine lv_iload_n S.x S.b d_Mpg_checkPlace_91 rfl (lv_at hl 0 rfl) ?_
              refine lv_if_ne (tgt := 106) S.x S.b d_Mpg_checkPlace_92 (by decide) (fun c275 => ?_) (fun c275 => ?_)
              ·
                exact px_vret S hr hlk hAe hw (Nat.le_of_ble_eq_true rfl) (Nat.le_of_ble_eq_true rfl) (⟨cf7, rfl, (show KpE cf cf7 from hke), (show WrV cf7 (tf 6).toInt from hwr), (show (cf7 33).toInt = (cf 33).toInt from by first | exact e13 | omega), (show (cf7 38).toInt = (cf 38).toInt from by first | exact e14 | omega), (show (cf7 48).toInt = (cf 48).toInt from by first | exact e15 | omega), (show (cf7 46).toInt = (cf 46).toInt from by first | exact e16 | omega), (show (cf7 47).toInt = (cf 47).toInt from by first | exact e17 | omega), (show (cf7 57).toInt = (cf 57).toInt from by first | exact e18 | omega), (show ZPl cf7 na ma p0 p1.toInt from (zr_no (by first | with_reducible rfl | with_reducible assumption | omega)))⟩) d_Mpg_checkPlace_106
              · exact absurd c275 (by decide)
            · have nc274 : p1.toInt = (1 : Int) := (i_eq (x := p1) (y := 1)).mp c274
              refine lv_aload_n S.x S.b d_Mpg_checkPlace_65 rfl (lv_at hl 1 rfl) ?_
              refine px_get S k_Mpg hT hw 0 0 35 (v := .ref (r 35)) rfl rfl rfl (by decide) m10_24 d_Mpg_checkPlace_66 ?_
              refine lv_aload_n S.x S.b d_Mpg_checkPlace_69 rfl (lv_at hl 1 rfl) ?_
              refine lv_aload_n S.x S.b d_Mpg_checkPlace_70 rfl (lv_at hl 1 rfl) ?_
              refine px_get S k_Mpg hT hw 0 0 15 (v := .ref (r 15)) rfl rfl rfl (by decide) m9_239 d_Mpg_checkPlace_71 ?_
              refine lv_iload_n S.x S.b d_Mpg_checkPlace_74 rfl (lv_at hl 2 rfl) ?_
              refine px_iald S hT hw 0 11 (n := 2100) (f := (na 15)) rfl gp_15 (x := p0) (vp_in_iff.mpr (by first | exact oz_a7e05de1cd hrg.2.2 hrg.2.1 g1 g2 | (constructor <;> omega))) d_Mpg_checkPlace_75 ?_
              refine lv_topi (fun z276 ez276 => ?_)
              have lz276 := Int32.le_toInt z276
              have uz276 := Int32.toInt_lt z276
              have rz276 := EcV.tok hec_p0 ez276
              refine lv_iconst (v := 0) S.x S.b d_Mpg_checkPlace_76 (by decide) ?_
              refine px_calli (pr := []) (px_runV (As := [.int z276, .int 0]) (rest := [.ref (r 35)]) S (c_mp_find l D cs h r g tf ta pf na ma wa cf7 ca ef ea xf xa z276 0  (show 0 ≤ z276.toInt from by first | exact rz276.1 | omega) (show z276.toInt < (tf 6).toInt from by first | exact oz_7fe81129bf rz276.2 | omega) (show (tf 6).toInt ≤ 2049 from by first | exact g3 | omega) (show 0 ≤ (0 : Int) from by first | decide | omega) (show 0 ≤ (cf7 33).toInt from by first | exact oz_e2fef14871 e13 g4 g5 | omega) htk (KnT.eq hkt (by first | with_reducible rfl | with_reducible assumption | omega)) _) hT (pr := []) (pcs := [wdP cs h r g tf ta pf na ma wa cf7 ca ef ea xf xa]) hw px_X.tt (px_recv hT hw 0 0 rfl rfl rfl) m12_181 m12_178 m12_180 ms_11_14 m1_21 q_Mpg_find ⟨Nat.le_of_ble_eq_true rfl, Nat.le_of_ble_eq_true rfl⟩ hl.1 rfl (Nat.le_of_ble_eq_true rfl) d_Mpg_checkPlace_77 ⟨Nat.le_of_ble_eq_true rfl, Nat.le_of_ble_eq_true rfl⟩) hw hA (fun v278 p277 H locs hp277 hw => ?_)
              obtain ⟨rfl, e279, e280, e281, e282⟩ := hp277
              have e279 : -1 ≤ v278.toInt := e279
              have e280 : v278.toInt < (cf7 33).toInt := e280
              have e281 : 0 ≤ v278.toInt → (0 : Int) ≤ v278.toInt := e281
              have e282 : FndV ta ca (cf7 33).toInt z276 (0 : Int) v278.toInt := e282
              have hfd := e282
              have hw : pw D A s.heap H locs [wdP cs h r g tf ta pf na ma wa cf7 ca ef ea xf xa] := hw
              have lv278 := Int32.le_toInt v278
              have uv278 := Int32.toInt_lt v278
              have hps := nm_pos (hnj (by first | with_reducible rfl | with_reducible assumption | omega)) (by first | with_reducible rfl | with_reducible assumption | omega) hfd ez276 (by first | with_reducible rfl | with_reducible assumption | omega)
              refine px_iald S hT hw 0 24 (n := 1100) (f := (ca 35)) rfl gp_35 (x := v278) (vp_in_iff.mpr (by constructor <;> omega)) d_Mpg_checkPlace_80 ?_
              refine lv_topi (fun z283 ez283 => ?_)
              have lz283 := Int32.le_toInt z283
              have uz283 := Int32.toInt_lt z283
              refine lv_iconst (v := 1) S.x S.b d_Mpg_checkPlace_81 (by decide) ?_
              refine lv_icmp_ne (tgt := 89) S.x S.b d_Mpg_checkPlace_82 (by decide) (fun c284 => ?_) (fun c284 => ?_)
              · have nc284 : ¬ z283.toInt = (1 : Int) := mt (i_eq (x := z283) (y := 1)).mpr c284
                refine lv_iconst (v := 0) S.x S.b d_Mpg_checkPlace_89 (by decide) ?_
                refine lv_istore_n (lv' := [(3, .int 0), (0, .ref h), (1, .int p0), (2, .int p1)]) S.x S.b d_Mpg_checkPlace_90 rfl hl (by decide) rfl (fun ls hl => ?_)
                refine lv_iload_n S.x S.b d_Mpg_checkPlace_91 rfl (lv_at hl 0 rfl) ?_
                refine lv_if_ne (tgt := 106) S.x S.b d_Mpg_checkPlace_92 (by decide) (fun c285 => ?_) (fun c285 => ?_)
                · exact absurd c285 (by decide)
                ·
                  refine lv_aload_n S.x S.b d_Mpg_checkPlace_95 rfl (lv_at hl 1 rfl) ?_
                  refine lv_bipush (v := 6) S.x S.b d_Mpg_checkPlace_96 (by decide) ?_
                  refine lv_aload_n S.x S.b d_Mpg_checkPlace_98 rfl (lv_at hl 1 rfl) ?_
                  refine lv_iload_n S.x S.b d_Mpg_checkPlace_99 rfl (lv_at hl 2 rfl) ?_
                  refine px_calli (pr := []) (px_runV (As := [.int p0]) (rest := [.int 6, .ref h]) S (c_mp_first l D cs h r g tf ta pf na ma wa cf7 ca ef ea xf xa p0  (show 0 ≤ p0.toInt from by first | exact hrg.2.2 | omega) (show p0.toInt < (pf 13).toInt from by first | exact oz_7319c2f99d g1 hrg.2.1 | omega) (show (pf 13).toInt ≤ 2100 from by first | exact g2 | omega) htk (FsI.le (N' := (pf 13).toInt) hfs (by first | with_reducible rfl | with_reducible assumption | omega)) _) hT (pr := []) (pcs := [wdP cs h r g tf ta pf na ma wa cf7 ca ef ea xf xa]) hw px_X.tt (px_recv hT hw 0 0 rfl rfl rfl) m13_9 m13_6 m13_8 ms_12_15 m1_21 q_Mpg_first ⟨Nat.le_of_ble_eq_true rfl, Nat.le_of_ble_eq_true rfl⟩ hl.1 rfl (Nat.le_of_ble_eq_true rfl) d_Mpg_checkPlace_100 ⟨Nat.le_of_ble_eq_true rfl, Nat.le_of_ble_eq_true rfl⟩) hw hA (fun v287 p286 H locs hp286 hw => ?_)
                  obtain ⟨rfl, e288, e289⟩ := hp286
                  have e288 : 0 ≤ v287.toInt := e288
                  have e289 : v287.toInt < (tf 6).toInt := e289
                  have hw : pw D A s.heap H locs [wdP cs h r g tf ta pf na ma wa cf7 ca ef ea xf xa] := hw
                  have lv287 := Int32.le_toInt v287
                  have uv287 := Int32.toInt_lt v287
                  refine px_callv (pr := []) (px_runV (As := [.int 6, .int v287]) (rest := []) S (c_mp_bad l D cs h r g tf ta pf na ma wa ca ef ea xf xa cf7 6 v287  (show 1 ≤ (6 : Int) from by first | decide | omega) (show 0 ≤ v287.toInt from by first | exact e288 | omega) (show v287.toInt < (tf 6).toInt from by first | exact e289 | omega) htk hwr _) hT (pr := []) (pcs := [wdP cs h r g tf ta pf na ma wa cf7 ca ef ea xf xa]) hw px_X.tt (px_recv hT hw 0 0 rfl rfl rfl) m12_173 m12_170 m12_172 ms_11_12 m1_21 q_Mpg_bad ⟨Nat.le_of_ble_eq_true rfl, Nat.le_of_ble_eq_true rfl⟩ hl.1 rfl (Nat.le_of_ble_eq_true rfl) d_Mpg_checkPlace_103 ⟨Nat.le_of_ble_eq_true rfl, Nat.le_of_ble_eq_true rfl⟩) hw hA (fun p292 H locs hp292 hw => ?_)
                  obtain ⟨cf291, rfl, e294, e295, e296, e297, e298, e299, e300, e301, e302, e303, e304, e305, e306, e307, e308, e309, e310, e311, e312⟩ := hp292
                  have e294 : KpE cf7 cf291 := e294
                  have hke := (hke).tr e294
                  have hkz_e294 := e294.2
                  have e295 : WrV cf291 (tf 6).toInt := e295
                  have hwr := e295
                  have hw0_e295 := hwr.1
                  have e296 : 1 ≤ (cf291 30).toInt := e296
                  have e297 : (cf291 33).toInt = (cf7 33).toInt := e297
                  have e298 : (cf291 38).toInt = (cf7 38).toInt := e298
                  have e299 : (cf291 48).toInt = (cf7 48).toInt := e299
                  have e300 : (cf291 46).toInt = (cf7 46).toInt := e300
                  have e301 : (cf291 47).toInt = (cf7 47).toInt := e301
                  have e302 : (cf291 57).toInt = (cf7 57).toInt := e302
                  have e303 : (cf291 37).toInt = (cf7 37).toInt := e303
                  have e304 : (cf291 42).toInt = (cf7 42).toInt := e304
                  have e305 : (cf291 43).toInt = (cf7 43).toInt := e305
                  have e306 : (cf291 44).toInt = (cf7 44).toInt := e306
                  have e307 : (cf291 45).toInt = (cf7 45).toInt := e307
                  have e308 : (cf291 54).toInt = (cf7 54).toInt := e308
                  have e309 : (cf291 55).toInt = (cf7 55).toInt := e309
                  have e310 : (cf291 58).toInt = (cf7 58).toInt := e310
                  have e311 : (cf291 59).toInt = (cf7 59).toInt := e311
                  have e312 : (cf291 41).toInt = (cf7 41).toInt := e312
                  have hw : pw D A s.heap H locs [wdP cs h r g tf ta pf na ma wa cf291 ca ef ea xf xa] := hw
                  exact px_vret S hr hlk hAe hw (Nat.le_of_ble_eq_true rfl) (Nat.le_of_ble_eq_true rfl) (⟨cf291, rfl, (show KpE cf cf291 from hke), (show WrV cf291 (tf 6).toInt from hwr), (show (cf291 33).toInt = (cf 33).toInt from by first | exact oz_1687f4cc65 e13 e297 | omega), (show (cf291 38).toInt = (cf 38).toInt from by first | exact oz_1687f4cc65 e14 e298 | omega), (show (cf291 48).toInt = (cf 48).toInt from by first | exact oz_1687f4cc65 e15 e299 | omega), (show (cf291 46).toInt = (cf 46).toInt from by first | exact oz_1687f4cc65 e16 e300 | omega), (show (cf291 47).toInt = (cf 47).toInt from by first | exact oz_1687f4cc65 e17 e301 | omega), (show (cf291 57).toInt = (cf 57).toInt from by first | exact oz_1687f4cc65 e18 e302 | omega), (show ZPl cf291 na ma p0 p1.toInt from (zr_no (by first | with_reducible rfl | with_reducible assumption | omega)))⟩) d_Mpg_checkPlace_106
              · have nc284 : z283.toInt = (1 : Int) := (i_eq (x := z283) (y := 1)).mp c284
                refine lv_iconst (v := 1) S.x S.b d_Mpg_checkPlace_85 (by decide) ?_
                refine lv_goto (tgt := 90) S.x S.b d_Mpg_checkPlace_86 (by decide) ?_
                refine lv_istore_n (lv' := [(3, .int 1), (0, .ref h), (1, .int p0), (2, .int p1)]) S.x S.b d_Mpg_checkPlace_90 rfl hl (by decide) rfl (fun ls hl => ?_)
                refine lv_iload_n S.x S.b d_Mpg_checkPlace_91 rfl (lv_at hl 0 rfl) ?_
                refine lv_if_ne (tgt := 106) S.x S.b d_Mpg_checkPlace_92 (by decide) (fun c313 => ?_) (fun c313 => ?_)
                ·
                  exact px_vret S hr hlk hAe hw (Nat.le_of_ble_eq_true rfl) (Nat.le_of_ble_eq_true rfl) (⟨cf7, rfl, (show KpE cf cf7 from hke), (show WrV cf7 (tf 6).toInt from hwr), (show (cf7 33).toInt = (cf 33).toInt from by first | exact e13 | omega), (show (cf7 38).toInt = (cf 38).toInt from by first | exact e14 | omega), (show (cf7 48).toInt = (cf 48).toInt from by first | exact e15 | omega), (show (cf7 46).toInt = (cf 46).toInt from by first | exact e16 | omega), (show (cf7 47).toInt = (cf 47).toInt from by first | exact e17 | omega), (show (cf7 57).toInt = (cf 57).toInt from by first | exact e18 | omega), (show ZPl cf7 na ma p0 p1.toInt from (zr_no (by first | with_reducible rfl | with_reducible assumption | omega)))⟩) d_Mpg_checkPlace_106
                · exact absurd c313 (by decide)
  · have nc1 : ¬ p1.toInt = (2 : Int) := mt (i_eq (x := p1) (y := 2)).mpr c1
    refine lv_iload_n S.x S.b d_Mpg_checkPlace_5 rfl (lv_at hl 2 rfl) ?_
    refine lv_iconst (v := 3) S.x S.b d_Mpg_checkPlace_6 (by decide) ?_
    refine lv_icmp_ne (tgt := 20) S.x S.b d_Mpg_checkPlace_7 (by decide) (fun c314 => ?_) (fun c314 => ?_)
    · have nc314 : ¬ p1.toInt = (3 : Int) := mt (i_eq (x := p1) (y := 3)).mpr c314
      refine lv_aload_n S.x S.b d_Mpg_checkPlace_20 rfl (lv_at hl 0 rfl) ?_
      refine px_get S k_Mpg hT hw 0 0 14 (v := .ref (r 14)) rfl rfl rfl (by decide) m9_238 d_Mpg_checkPlace_21 ?_
      refine lv_iload_n S.x S.b d_Mpg_checkPlace_24 rfl (lv_at hl 1 rfl) ?_
      refine px_bald S hT hw 0 10 (n := 2100) (f := (na 14)) rfl gp_14 (x := p0) (vp_in_iff.mpr (by first | exact oz_a7e05de1cd hrg.2.2 hrg.2.1 g1 g2 | (constructor <;> omega))) d_Mpg_checkPlace_25 ?_
      refine lv_topi (fun z315 ez315 => ?_)
      have lz315 := Int32.le_toInt z315
      have uz315 := Int32.toInt_lt z315
      have rz315 := EcV.kd hec_p0 ez315
      refine lv_iconst (v := 4) S.x S.b d_Mpg_checkPlace_26 (by decide) ?_
      refine lv_icmp_eq (tgt := 44) S.x S.b d_Mpg_checkPlace_27 (by decide) (fun c316 => ?_) (fun c316 => ?_)
      · have nc316 : z315.toInt = (4 : Int) := (i_eq (x := z315) (y := 4)).mp c316
        refine lv_iconst (v := 1) S.x S.b d_Mpg_checkPlace_44 (by decide) ?_
        refine lv_goto (tgt := 49) S.x S.b d_Mpg_checkPlace_45 (by decide) ?_
        refine lv_istore_n (lv' := [(3, .int 1), (0, .ref h), (1, .int p0), (2, .int p1)]) S.x S.b d_Mpg_checkPlace_49 rfl hl (by decide) rfl (fun ls hl => ?_)
        refine lv_aload_n S.x S.b d_Mpg_checkPlace_50 rfl (lv_at hl 1 rfl) ?_
        refine px_get S k_Mpg hT hw 0 0 14 (v := .ref (r 14)) rfl rfl rfl (by decide) m9_238 d_Mpg_checkPlace_51 ?_
        refine lv_iload_n S.x S.b d_Mpg_checkPlace_54 rfl (lv_at hl 2 rfl) ?_
        refine px_bald S hT hw 0 10 (n := 2100) (f := (na 14)) rfl gp_14 (x := p0) (vp_in_iff.mpr (by first | exact oz_a7e05de1cd hrg.2.2 hrg.2.1 g1 g2 | (constructor <;> omega))) d_Mpg_checkPlace_55 ?_
        refine lv_topi (fun z317 ez317 => ?_)
        have lz317 := Int32.le_toInt z317
        have uz317 := Int32.toInt_lt z317
        have rz317 := EcV.kd hec_p0 ez317
        refine lv_iconst (v := 2) S.x S.b d_Mpg_checkPlace_56 (by decide) ?_
        refine lv_icmp_ne (tgt := 91) S.x S.b d_Mpg_checkPlace_57 (by decide) (fun c318 => ?_) (fun c318 => ?_)
        · have nc318 : ¬ z317.toInt = (2 : Int) := mt (i_eq (x := z317) (y := 2)).mpr c318
          refine lv_iload_n S.x S.b d_Mpg_checkPlace_91 rfl (lv_at hl 0 rfl) ?_
          refine lv_if_ne (tgt := 106) S.x S.b d_Mpg_checkPlace_92 (by decide) (fun c319 => ?_) (fun c319 => ?_)
          ·
            exact px_vret S hr hlk hAe hw (Nat.le_of_ble_eq_true rfl) (Nat.le_of_ble_eq_true rfl) (⟨cf, rfl, (show KpE cf cf from hke), (show WrV cf (tf 6).toInt from hwr), (show (cf 33).toInt = (cf 33).toInt from rfl), (show (cf 38).toInt = (cf 38).toInt from rfl), (show (cf 48).toInt = (cf 48).toInt from rfl), (show (cf 46).toInt = (cf 46).toInt from rfl), (show (cf 47).toInt = (cf 47).toInt from rfl), (show (cf 57).toInt = (cf 57).toInt from rfl), (show ZPl cf na ma p0 p1.toInt from (fun _ => ⟨⟨by first | with_reducible rfl | with_reducible assumption | omega, by first | with_reducible rfl | with_reducible assumption | omega⟩, (by first | exact Or.inl (by first | with_reducible rfl | with_reducible assumption | omega) | exact Or.inr ⟨by first | with_reducible rfl | with_reducible assumption | omega, Or.inl (by first | with_reducible rfl | with_reducible assumption | omega)⟩ | exact Or.inr ⟨by first | with_reducible rfl | with_reducible assumption | omega, Or.inr ⟨by first | with_reducible rfl | with_reducible assumption | omega, nm_pl (hnj (by first | with_reducible rfl | with_reducible assumption | omega)) (by first | with_reducible rfl | with_reducible assumption | omega) hfd ez276 (by first | with_reducible rfl | with_reducible assumption | omega) hks (by first | with_reducible rfl | with_reducible assumption | omega) ez283 (by first | with_reducible rfl | with_reducible assumption | omega)⟩⟩)⟩))⟩) d_Mpg_checkPlace_106
          · exact absurd c319 (by decide)
        · have nc318 : z317.toInt = (2 : Int) := (i_eq (x := z317) (y := 2)).mp c318
          refine lv_iload_n S.x S.b d_Mpg_checkPlace_60 rfl (lv_at hl 3 rfl) ?_
          refine lv_iconst (v := 1) S.x S.b d_Mpg_checkPlace_61 (by decide) ?_
          refine lv_icmp_ne (tgt := 91) S.x S.b d_Mpg_checkPlace_62 (by decide) (fun c320 => ?_) (fun c320 => ?_)
          · have nc320 : ¬ p1.toInt = (1 : Int) := mt (i_eq (x := p1) (y := 1)).mpr c320
            refine lv_iload_n S.x S.b d_Mpg_checkPlace_91 rfl (lv_at hl 0 rfl) ?_
            refine lv_if_ne (tgt := 106) S.x S.b d_Mpg_checkPlace_92 (by decide) (fun c321 => ?_) (fun c321 => ?_)
            ·
              exact px_vret S hr hlk hAe hw (Nat.le_of_ble_eq_true rfl) (Nat.le_of_ble_eq_true rfl) (⟨cf, rfl, (show KpE cf cf from hke), (show WrV cf (tf 6).toInt from hwr), (show (cf 33).toInt = (cf 33).toInt from rfl), (show (cf 38).toInt = (cf 38).toInt from rfl), (show (cf 48).toInt = (cf 48).toInt from rfl), (show (cf 46).toInt = (cf 46).toInt from rfl), (show (cf 47).toInt = (cf 47).toInt from rfl), (show (cf 57).toInt = (cf 57).toInt from rfl), (show ZPl cf na ma p0 p1.toInt from (fun _ => ⟨⟨by first | with_reducible rfl | with_reducible assumption | omega, by first | with_reducible rfl | with_reducible assumption | omega⟩, (by first | exact Or.inl (by first | with_reducible rfl | with_reducible assumption | omega) | exact Or.inr ⟨by first | with_reducible rfl | with_reducible assumption | omega, Or.inl (by first | with_reducible rfl | with_reducible assumption | omega)⟩ | exact Or.inr ⟨by first | with_reducible rfl | with_reducible assumption | omega, Or.inr ⟨by first | with_reducible rfl | with_reducible assumption | omega, nm_pl (hnj (by first | with_reducible rfl | with_reducible assumption | omega)) (by first | with_reducible rfl | with_reducible assumption | omega) hfd ez276 (by first | with_reducible rfl | with_reducible assumption | omega) hks (by first | with_reducible rfl | with_reducible assumption | omega) ez283 (by first | with_reducible rfl | with_reducible assumption | omega)⟩⟩)⟩))⟩) d_Mpg_checkPlace_106
            · exact absurd c321 (by decide)
          · have nc320 : p1.toInt = (1 : Int) := (i_eq (x := p1) (y := 1)).mp c320
            refine lv_aload_n S.x S.b d_Mpg_checkPlace_65 rfl (lv_at hl 1 rfl) ?_
            refine px_get S k_Mpg hT hw 0 0 35 (v := .ref (r 35)) rfl rfl rfl (by decide) m10_24 d_Mpg_checkPlace_66 ?_
            refine lv_aload_n S.x S.b d_Mpg_checkPlace_69 rfl (lv_at hl 1 rfl) ?_
            refine lv_aload_n S.x S.b d_Mpg_checkPlace_70 rfl (lv_at hl 1 rfl) ?_
            refine px_get S k_Mpg hT hw 0 0 15 (v := .ref (r 15)) rfl rfl rfl (by decide) m9_239 d_Mpg_checkPlace_71 ?_
            refine lv_iload_n S.x S.b d_Mpg_checkPlace_74 rfl (lv_at hl 2 rfl) ?_
            refine px_iald S hT hw 0 11 (n := 2100) (f := (na 15)) rfl gp_15 (x := p0) (vp_in_iff.mpr (by first | exact oz_a7e05de1cd hrg.2.2 hrg.2.1 g1 g2 | (constructor <;> omega))) d_Mpg_checkPlace_75 ?_
            refine lv_topi (fun z322 ez322 => ?_)
            have lz322 := Int32.le_toInt z322
            have uz322 := Int32.toInt_lt z322
            have rz322 := EcV.tok hec_p0 ez322
            refine lv_iconst (v := 0) S.x S.b d_Mpg_checkPlace_76 (by decide) ?_
            refine px_calli (pr := []) (px_runV (As := [.int z322, .int 0]) (rest := [.ref (r 35)]) S (c_mp_find l D cs h r g tf ta pf na ma wa cf ca ef ea xf xa z322 0  (show 0 ≤ z322.toInt from by first | exact rz322.1 | omega) (show z322.toInt < (tf 6).toInt from by first | exact oz_7fe81129bf rz322.2 | omega) (show (tf 6).toInt ≤ 2049 from by first | exact g3 | omega) (show 0 ≤ (0 : Int) from by first | decide | omega) (show 0 ≤ (cf 33).toInt from by first | exact oz_f3ebed1ad0 g4 g5 | omega) htk (KnT.eq hkt (by first | with_reducible rfl | with_reducible assumption | omega)) _) hT (pr := []) (pcs := [wdP cs h r g tf ta pf na ma wa cf ca ef ea xf xa]) hw px_X.tt (px_recv hT hw 0 0 rfl rfl rfl) m12_181 m12_178 m12_180 ms_11_14 m1_21 q_Mpg_find ⟨Nat.le_of_ble_eq_true rfl, Nat.le_of_ble_eq_true rfl⟩ hl.1 rfl (Nat.le_of_ble_eq_true rfl) d_Mpg_checkPlace_77 ⟨Nat.le_of_ble_eq_true rfl, Nat.le_of_ble_eq_true rfl⟩) hw hA (fun v324 p323 H locs hp323 hw => ?_)
            obtain ⟨rfl, e325, e326, e327, e328⟩ := hp323
            have e325 : -1 ≤ v324.toInt := e325
            have e326 : v324.toInt < (cf 33).toInt := e326
            have e327 : 0 ≤ v324.toInt → (0 : Int) ≤ v324.toInt := e327
            have e328 : FndV ta ca (cf 33).toInt z322 (0 : Int) v324.toInt := e328
            have hfd := e328
            have hw : pw D A s.heap H locs [wdP cs h r g tf ta pf na ma wa cf ca ef ea xf xa] := hw
            have lv324 := Int32.le_toInt v324
            have uv324 := Int32.toInt_lt v324
            have hps := nm_pos (hnj (by first | with_reducible rfl | with_reducible assumption | omega)) (by first | with_reducible rfl | with_reducible assumption | omega) hfd ez322 (by first | with_reducible rfl | with_reducible assumption | omega)
            refine px_iald S hT hw 0 24 (n := 1100) (f := (ca 35)) rfl gp_35 (x := v324) (vp_in_iff.mpr (by constructor <;> omega)) d_Mpg_checkPlace_80 ?_
            refine lv_topi (fun z329 ez329 => ?_)
            have lz329 := Int32.le_toInt z329
            have uz329 := Int32.toInt_lt z329
            refine lv_iconst (v := 1) S.x S.b d_Mpg_checkPlace_81 (by decide) ?_
            refine lv_icmp_ne (tgt := 89) S.x S.b d_Mpg_checkPlace_82 (by decide) (fun c330 => ?_) (fun c330 => ?_)
            · have nc330 : ¬ z329.toInt = (1 : Int) := mt (i_eq (x := z329) (y := 1)).mpr c330
              refine lv_iconst (v := 0) S.x S.b d_Mpg_checkPlace_89 (by decide) ?_
              refine lv_istore_n (lv' := [(3, .int 0), (0, .ref h), (1, .int p0), (2, .int p1)]) S.x S.b d_Mpg_checkPlace_90 rfl hl (by decide) rfl (fun ls hl => ?_)
              refine lv_iload_n S.x S.b d_Mpg_checkPlace_91 rfl (lv_at hl 0 rfl) ?_
              refine lv_if_ne (tgt := 106) S.x S.b d_Mpg_checkPlace_92 (by decide) (fun c331 => ?_) (fun c331 => ?_)
              · exact absurd c331 (by decide)
              ·
                refine lv_aload_n S.x S.b d_Mpg_checkPlace_95 rfl (lv_at hl 1 rfl) ?_
                refine lv_bipush (v := 6) S.x S.b d_Mpg_checkPlace_96 (by decide) ?_
                refine lv_aload_n S.x S.b d_Mpg_checkPlace_98 rfl (lv_at hl 1 rfl) ?_
                refine lv_iload_n S.x S.b d_Mpg_checkPlace_99 rfl (lv_at hl 2 rfl) ?_
                refine px_calli (pr := []) (px_runV (As := [.int p0]) (rest := [.int 6, .ref h]) S (c_mp_first l D cs h r g tf ta pf na ma wa cf ca ef ea xf xa p0  (show 0 ≤ p0.toInt from by first | exact hrg.2.2 | omega) (show p0.toInt < (pf 13).toInt from by first | exact oz_7319c2f99d g1 hrg.2.1 | omega) (show (pf 13).toInt ≤ 2100 from by first | exact g2 | omega) htk (FsI.le (N' := (pf 13).toInt) hfs (by first | with_reducible rfl | with_reducible assumption | omega)) _) hT (pr := []) (pcs := [wdP cs h r g tf ta pf na ma wa cf ca ef ea xf xa]) hw px_X.tt (px_recv hT hw 0 0 rfl rfl rfl) m13_9 m13_6 m13_8 ms_12_15 m1_21 q_Mpg_first ⟨Nat.le_of_ble_eq_true rfl, Nat.le_of_ble_eq_true rfl⟩ hl.1 rfl (Nat.le_of_ble_eq_true rfl) d_Mpg_checkPlace_100 ⟨Nat.le_of_ble_eq_true rfl, Nat.le_of_ble_eq_true rfl⟩) hw hA (fun v333 p332 H locs hp332 hw => ?_)
                obtain ⟨rfl, e334, e335⟩ := hp332
                have e334 : 0 ≤ v333.toInt := e334
                have e335 : v333.toInt < (tf 6).toInt := e335
                have hw : pw D A s.heap H locs [wdP cs h r g tf ta pf na ma wa cf ca ef ea xf xa] := hw
                have lv333 := Int32.le_toInt v333
                have uv333 := Int32.toInt_lt v333
                refine px_callv (pr := []) (px_runV (As := [.int 6, .int v333]) (rest := []) S (c_mp_bad l D cs h r g tf ta pf na ma wa ca ef ea xf xa cf 6 v333  (show 1 ≤ (6 : Int) from by first | decide | omega) (show 0 ≤ v333.toInt from by first | exact e334 | omega) (show v333.toInt < (tf 6).toInt from by first | exact e335 | omega) htk hwr _) hT (pr := []) (pcs := [wdP cs h r g tf ta pf na ma wa cf ca ef ea xf xa]) hw px_X.tt (px_recv hT hw 0 0 rfl rfl rfl) m12_173 m12_170 m12_172 ms_11_12 m1_21 q_Mpg_bad ⟨Nat.le_of_ble_eq_true rfl, Nat.le_of_ble_eq_true rfl⟩ hl.1 rfl (Nat.le_of_ble_eq_true rfl) d_Mpg_checkPlace_103 ⟨Nat.le_of_ble_eq_true rfl, Nat.le_of_ble_eq_true rfl⟩) hw hA (fun p338 H locs hp338 hw => ?_)
                obtain ⟨cf337, rfl, e340, e341, e342, e343, e344, e345, e346, e347, e348, e349, e350, e351, e352, e353, e354, e355, e356, e357, e358⟩ := hp338
                have e340 : KpE cf cf337 := e340
                have hke := (hke).tr e340
                have hkz_e340 := e340.2
                have e341 : WrV cf337 (tf 6).toInt := e341
                have hwr := e341
                have hw0_e341 := hwr.1
                have e342 : 1 ≤ (cf337 30).toInt := e342
                have e343 : (cf337 33).toInt = (cf 33).toInt := e343
                have e344 : (cf337 38).toInt = (cf 38).toInt := e344
                have e345 : (cf337 48).toInt = (cf 48).toInt := e345
                have e346 : (cf337 46).toInt = (cf 46).toInt := e346
                have e347 : (cf337 47).toInt = (cf 47).toInt := e347
                have e348 : (cf337 57).toInt = (cf 57).toInt := e348
                have e349 : (cf337 37).toInt = (cf 37).toInt := e349
                have e350 : (cf337 42).toInt = (cf 42).toInt := e350
                have e351 : (cf337 43).toInt = (cf 43).toInt := e351
                have e352 : (cf337 44).toInt = (cf 44).toInt := e352
                have e353 : (cf337 45).toInt = (cf 45).toInt := e353
                have e354 : (cf337 54).toInt = (cf 54).toInt := e354
                have e355 : (cf337 55).toInt = (cf 55).toInt := e355
                have e356 : (cf337 58).toInt = (cf 58).toInt := e356
                have e357 : (cf337 59).toInt = (cf 59).toInt := e357
                have e358 : (cf337 41).toInt = (cf 41).toInt := e358
                have hw : pw D A s.heap H locs [wdP cs h r g tf ta pf na ma wa cf337 ca ef ea xf xa] := hw
                exact px_vret S hr hlk hAe hw (Nat.le_of_ble_eq_true rfl) (Nat.le_of_ble_eq_true rfl) (⟨cf337, rfl, (show KpE cf cf337 from hke), (show WrV cf337 (tf 6).toInt from hwr), (show (cf337 33).toInt = (cf 33).toInt from by first | exact e343 | omega), (show (cf337 38).toInt = (cf 38).toInt from by first | exact e344 | omega), (show (cf337 48).toInt = (cf 48).toInt from by first | exact e345 | omega), (show (cf337 46).toInt = (cf 46).toInt from by first | exact e346 | omega), (show (cf337 47).toInt = (cf 47).toInt from by first | exact e347 | omega), (show (cf337 57).toInt = (cf 57).toInt from by first | exact e348 | omega), (show ZPl cf337 na ma p0 p1.toInt from (zr_no (by first | with_reducible rfl | with_reducible assumption | omega)))⟩) d_Mpg_checkPlace_106
            · have nc330 : z329.toInt = (1 : Int) := (i_eq (x := z329) (y := 1)).mp c330
              refine lv_iconst (v := 1) S.x S.b d_Mpg_checkPlace_85 (by decide) ?_
              refine lv_goto (tgt := 90) S.x S.b d_Mpg_checkPlace_86 (by decide) ?_
              refine lv_istore_n (lv' := [(3, .int 1), (0, .ref h), (1, .int p0), (2, .int p1)]) S.x S.b d_Mpg_checkPlace_90 rfl hl (by decide) rfl (fun ls hl => ?_)
              refine lv_iload_n S.x S.b d_Mpg_checkPlace_91 rfl (lv_at hl 0 rfl) ?_
              refine lv_if_ne (tgt := 106) S.x S.b d_Mpg_checkPlace_92 (by decide) (fun c359 => ?_) (fun c359 => ?_)
              ·
                exact px_vret S hr hlk hAe hw (Nat.le_of_ble_eq_true rfl) (Nat.le_of_ble_eq_true rfl) (⟨cf, rfl, (show KpE cf cf from hke), (show WrV cf (tf 6).toInt from hwr), (show (cf 33).toInt = (cf 33).toInt from rfl), (show (cf 38).toInt = (cf 38).toInt from rfl), (show (cf 48).toInt = (cf 48).toInt from rfl), (show (cf 46).toInt = (cf 46).toInt from rfl), (show (cf 47).toInt = (cf 47).toInt from rfl), (show (cf 57).toInt = (cf 57).toInt from rfl), (show ZPl cf na ma p0 p1.toInt from (fun _ => ⟨⟨by first | with_reducible rfl | with_reducible assumption | omega, by first | with_reducible rfl | with_reducible assumption | omega⟩, (by first | exact Or.inl (by first | with_reducible rfl | with_reducible assumption | omega) | exact Or.inr ⟨by first | with_reducible rfl | with_reducible assumption | omega, Or.inl (by first | with_reducible rfl | with_reducible assumption | omega)⟩ | exact Or.inr ⟨by first | with_reducible rfl | with_reducible assumption | omega, Or.inr ⟨by first | with_reducible rfl | with_reducible assumption | omega, nm_pl (hnj (by first | with_reducible rfl | with_reducible assumption | omega)) (by first | with_reducible rfl | with_reducible assumption | omega) hfd ez322 (by first | with_reducible rfl | with_reducible assumption | omega) hks (by first | with_reducible rfl | with_reducible assumption | omega) ez329 (by first | with_reducible rfl | with_reducible assumption | omega)⟩⟩)⟩))⟩) d_Mpg_checkPlace_106
              · exact absurd c359 (by decide)
      · have nc316 : ¬ z315.toInt = (4 : Int) := mt (i_eq (x := z315) (y := 4)).mpr c316
        refine lv_aload_n S.x S.b d_Mpg_checkPlace_30 rfl (lv_at hl 0 rfl) ?_
        refine px_get S k_Mpg hT hw 0 0 14 (v := .ref (r 14)) rfl rfl rfl (by decide) m9_238 d_Mpg_checkPlace_31 ?_
        refine lv_iload_n S.x S.b d_Mpg_checkPlace_34 rfl (lv_at hl 1 rfl) ?_
        refine px_bald S hT hw 0 10 (n := 2100) (f := (na 14)) rfl gp_14 (x := p0) (vp_in_iff.mpr (by first | exact oz_a7e05de1cd hrg.2.2 hrg.2.1 g1 g2 | (constructor <;> omega))) d_Mpg_checkPlace_35 ?_
        refine lv_topi (fun z360 ez360 => ?_)
        have lz360 := Int32.le_toInt z360
        have uz360 := Int32.toInt_lt z360
        have rz360 := EcV.kd hec_p0 ez360
        refine lv_iconst (v := 2) S.x S.b d_Mpg_checkPlace_36 (by decide) ?_
        refine lv_icmp_ne (tgt := 48) S.x S.b d_Mpg_checkPlace_37 (by decide) (fun c361 => ?_) (fun c361 => ?_)
        · have nc361 : ¬ z360.toInt = (2 : Int) := mt (i_eq (x := z360) (y := 2)).mpr c361
          refine lv_iconst (v := 0) S.x S.b d_Mpg_checkPlace_48 (by decide) ?_
          refine lv_istore_n (lv' := [(3, .int 0), (0, .ref h), (1, .int p0), (2, .int p1)]) S.x S.b d_Mpg_checkPlace_49 rfl hl (by decide) rfl (fun ls hl => ?_)
          refine lv_aload_n S.x S.b d_Mpg_checkPlace_50 rfl (lv_at hl 1 rfl) ?_
          refine px_get S k_Mpg hT hw 0 0 14 (v := .ref (r 14)) rfl rfl rfl (by decide) m9_238 d_Mpg_checkPlace_51 ?_
          refine lv_iload_n S.x S.b d_Mpg_checkPlace_54 rfl (lv_at hl 2 rfl) ?_
          refine px_bald S hT hw 0 10 (n := 2100) (f := (na 14)) rfl gp_14 (x := p0) (vp_in_iff.mpr (by first | exact oz_a7e05de1cd hrg.2.2 hrg.2.1 g1 g2 | (constructor <;> omega))) d_Mpg_checkPlace_55 ?_
          refine lv_topi (fun z362 ez362 => ?_)
          have lz362 := Int32.le_toInt z362
          have uz362 := Int32.toInt_lt z362
          have rz362 := EcV.kd hec_p0 ez362
          refine lv_iconst (v := 2) S.x S.b d_Mpg_checkPlace_56 (by decide) ?_
          refine lv_icmp_ne (tgt := 91) S.x S.b d_Mpg_checkPlace_57 (by decide) (fun c363 => ?_) (fun c363 => ?_)
          · have nc363 : ¬ z362.toInt = (2 : Int) := mt (i_eq (x := z362) (y := 2)).mpr c363
            refine lv_iload_n S.x S.b d_Mpg_checkPlace_91 rfl (lv_at hl 0 rfl) ?_
            refine lv_if_ne (tgt := 106) S.x S.b d_Mpg_checkPlace_92 (by decide) (fun c364 => ?_) (fun c364 => ?_)
            · exact absurd c364 (by decide)
            ·
              refine lv_aload_n S.x S.b d_Mpg_checkPlace_95 rfl (lv_at hl 1 rfl) ?_
              refine lv_bipush (v := 6) S.x S.b d_Mpg_checkPlace_96 (by decide) ?_
              refine lv_aload_n S.x S.b d_Mpg_checkPlace_98 rfl (lv_at hl 1 rfl) ?_
              refine lv_iload_n S.x S.b d_Mpg_checkPlace_99 rfl (lv_at hl 2 rfl) ?_
              refine px_calli (pr := []) (px_runV (As := [.int p0]) (rest := [.int 6, .ref h]) S (c_mp_first l D cs h r g tf ta pf na ma wa cf ca ef ea xf xa p0  (show 0 ≤ p0.toInt from by first | exact hrg.2.2 | omega) (show p0.toInt < (pf 13).toInt from by first | exact oz_7319c2f99d g1 hrg.2.1 | omega) (show (pf 13).toInt ≤ 2100 from by first | exact g2 | omega) htk (FsI.le (N' := (pf 13).toInt) hfs (by first | with_reducible rfl | with_reducible assumption | omega)) _) hT (pr := []) (pcs := [wdP cs h r g tf ta pf na ma wa cf ca ef ea xf xa]) hw px_X.tt (px_recv hT hw 0 0 rfl rfl rfl) m13_9 m13_6 m13_8 ms_12_15 m1_21 q_Mpg_first ⟨Nat.le_of_ble_eq_true rfl, Nat.le_of_ble_eq_true rfl⟩ hl.1 rfl (Nat.le_of_ble_eq_true rfl) d_Mpg_checkPlace_100 ⟨Nat.le_of_ble_eq_true rfl, Nat.le_of_ble_eq_true rfl⟩) hw hA (fun v366 p365 H locs hp365 hw => ?_)
              obtain ⟨rfl, e367, e368⟩ := hp365
              have e367 : 0 ≤ v366.toInt := e367
              have e368 : v366.toInt < (tf 6).toInt := e368
              have hw : pw D A s.heap H locs [wdP cs h r g tf ta pf na ma wa cf ca ef ea xf xa] := hw
              have lv366 := Int32.le_toInt v366
              have uv366 := Int32.toInt_lt v366
              refine px_callv (pr := []) (px_runV (As := [.int 6, .int v366]) (rest := []) S (c_mp_bad l D cs h r g tf ta pf na ma wa ca ef ea xf xa cf 6 v366  (show 1 ≤ (6 : Int) from by first | decide | omega) (show 0 ≤ v366.toInt from by first | exact e367 | omega) (show v366.toInt < (tf 6).toInt from by first | exact e368 | omega) htk hwr _) hT (pr := []) (pcs := [wdP cs h r g tf ta pf na ma wa cf ca ef ea xf xa]) hw px_X.tt (px_recv hT hw 0 0 rfl rfl rfl) m12_173 m12_170 m12_172 ms_11_12 m1_21 q_Mpg_bad ⟨Nat.le_of_ble_eq_true rfl, Nat.le_of_ble_eq_true rfl⟩ hl.1 rfl (Nat.le_of_ble_eq_true rfl) d_Mpg_checkPlace_103 ⟨Nat.le_of_ble_eq_true rfl, Nat.le_of_ble_eq_true rfl⟩) hw hA (fun p371 H locs hp371 hw => ?_)
              obtain ⟨cf370, rfl, e373, e374, e375, e376, e377, e378, e379, e380, e381, e382, e383, e384, e385, e386, e387, e388, e389, e390, e391⟩ := hp371
              have e373 : KpE cf cf370 := e373
              have hke := (hke).tr e373
              have hkz_e373 := e373.2
              have e374 : WrV cf370 (tf 6).toInt := e374
              have hwr := e374
              have hw0_e374 := hwr.1
              have e375 : 1 ≤ (cf370 30).toInt := e375
              have e376 : (cf370 33).toInt = (cf 33).toInt := e376
              have e377 : (cf370 38).toInt = (cf 38).toInt := e377
              have e378 : (cf370 48).toInt = (cf 48).toInt := e378
              have e379 : (cf370 46).toInt = (cf 46).toInt := e379
              have e380 : (cf370 47).toInt = (cf 47).toInt := e380
              have e381 : (cf370 57).toInt = (cf 57).toInt := e381
              have e382 : (cf370 37).toInt = (cf 37).toInt := e382
              have e383 : (cf370 42).toInt = (cf 42).toInt := e383
              have e384 : (cf370 43).toInt = (cf 43).toInt := e384
              have e385 : (cf370 44).toInt = (cf 44).toInt := e385
              have e386 : (cf370 45).toInt = (cf 45).toInt := e386
              have e387 : (cf370 54).toInt = (cf 54).toInt := e387
              have e388 : (cf370 55).toInt = (cf 55).toInt := e388
              have e389 : (cf370 58).toInt = (cf 58).toInt := e389
              have e390 : (cf370 59).toInt = (cf 59).toInt := e390
              have e391 : (cf370 41).toInt = (cf 41).toInt := e391
              have hw : pw D A s.heap H locs [wdP cs h r g tf ta pf na ma wa cf370 ca ef ea xf xa] := hw
              exact px_vret S hr hlk hAe hw (Nat.le_of_ble_eq_true rfl) (Nat.le_of_ble_eq_true rfl) (⟨cf370, rfl, (show KpE cf cf370 from hke), (show WrV cf370 (tf 6).toInt from hwr), (show (cf370 33).toInt = (cf 33).toInt from by first | exact e376 | omega), (show (cf370 38).toInt = (cf 38).toInt from by first | exact e377 | omega), (show (cf370 48).toInt = (cf 48).toInt from by first | exact e378 | omega), (show (cf370 46).toInt = (cf 46).toInt from by first | exact e379 | omega), (show (cf370 47).toInt = (cf 47).toInt from by first | exact e380 | omega), (show (cf370 57).toInt = (cf 57).toInt from by first | exact e381 | omega), (show ZPl cf370 na ma p0 p1.toInt from (zr_no (by first | with_reducible rfl | with_reducible assumption | omega)))⟩) d_Mpg_checkPlace_106
          · have nc363 : z362.toInt = (2 : Int) := (i_eq (x := z362) (y := 2)).mp c363
            refine lv_iload_n S.x S.b d_Mpg_checkPlace_60 rfl (lv_at hl 3 rfl) ?_
            refine lv_iconst (v := 1) S.x S.b d_Mpg_checkPlace_61 (by decide) ?_
            refine lv_icmp_ne (tgt := 91) S.x S.b d_Mpg_checkPlace_62 (by decide) (fun c392 => ?_) (fun c392 => ?_)
            · have nc392 : ¬ p1.toInt = (1 : Int) := mt (i_eq (x := p1) (y := 1)).mpr c392
              refine lv_iload_n S.x S.b d_Mpg_checkPlace_91 rfl (lv_at hl 0 rfl) ?_
              refine lv_if_ne (tgt := 106) S.x S.b d_Mpg_checkPlace_92 (by decide) (fun c393 => ?_) (fun c393 => ?_)
              · exact absurd c393 (by decide)
              ·
                refine lv_aload_n S.x S.b d_Mpg_checkPlace_95 rfl (lv_at hl 1 rfl) ?_
                refine lv_bipush (v := 6) S.x S.b d_Mpg_checkPlace_96 (by decide) ?_
                refine lv_aload_n S.x S.b d_Mpg_checkPlace_98 rfl (lv_at hl 1 rfl) ?_
                refine lv_iload_n S.x S.b d_Mpg_checkPlace_99 rfl (lv_at hl 2 rfl) ?_
                refine px_calli (pr := []) (px_runV (As := [.int p0]) (rest := [.int 6, .ref h]) S (c_mp_first l D cs h r g tf ta pf na ma wa cf ca ef ea xf xa p0  (show 0 ≤ p0.toInt from by first | exact hrg.2.2 | omega) (show p0.toInt < (pf 13).toInt from by first | exact oz_7319c2f99d g1 hrg.2.1 | omega) (show (pf 13).toInt ≤ 2100 from by first | exact g2 | omega) htk (FsI.le (N' := (pf 13).toInt) hfs (by first | with_reducible rfl | with_reducible assumption | omega)) _) hT (pr := []) (pcs := [wdP cs h r g tf ta pf na ma wa cf ca ef ea xf xa]) hw px_X.tt (px_recv hT hw 0 0 rfl rfl rfl) m13_9 m13_6 m13_8 ms_12_15 m1_21 q_Mpg_first ⟨Nat.le_of_ble_eq_true rfl, Nat.le_of_ble_eq_true rfl⟩ hl.1 rfl (Nat.le_of_ble_eq_true rfl) d_Mpg_checkPlace_100 ⟨Nat.le_of_ble_eq_true rfl, Nat.le_of_ble_eq_true rfl⟩) hw hA (fun v395 p394 H locs hp394 hw => ?_)
                obtain ⟨rfl, e396, e397⟩ := hp394
                have e396 : 0 ≤ v395.toInt := e396
                have e397 : v395.toInt < (tf 6).toInt := e397
                have hw : pw D A s.heap H locs [wdP cs h r g tf ta pf na ma wa cf ca ef ea xf xa] := hw
                have lv395 := Int32.le_toInt v395
                have uv395 := Int32.toInt_lt v395
                refine px_callv (pr := []) (px_runV (As := [.int 6, .int v395]) (rest := []) S (c_mp_bad l D cs h r g tf ta pf na ma wa ca ef ea xf xa cf 6 v395  (show 1 ≤ (6 : Int) from by first | decide | omega) (show 0 ≤ v395.toInt from by first | exact e396 | omega) (show v395.toInt < (tf 6).toInt from by first | exact e397 | omega) htk hwr _) hT (pr := []) (pcs := [wdP cs h r g tf ta pf na ma wa cf ca ef ea xf xa]) hw px_X.tt (px_recv hT hw 0 0 rfl rfl rfl) m12_173 m12_170 m12_172 ms_11_12 m1_21 q_Mpg_bad ⟨Nat.le_of_ble_eq_true rfl, Nat.le_of_ble_eq_true rfl⟩ hl.1 rfl (Nat.le_of_ble_eq_true rfl) d_Mpg_checkPlace_103 ⟨Nat.le_of_ble_eq_true rfl, Nat.le_of_ble_eq_true rfl⟩) hw hA (fun p400 H locs hp400 hw => ?_)
                obtain ⟨cf399, rfl, e402, e403, e404, e405, e406, e407, e408, e409, e410, e411, e412, e413, e414, e415, e416, e417, e418, e419, e420⟩ := hp400
                have e402 : KpE cf cf399 := e402
                have hke := (hke).tr e402
                have hkz_e402 := e402.2
                have e403 : WrV cf399 (tf 6).toInt := e403
                have hwr := e403
                have hw0_e403 := hwr.1
                have e404 : 1 ≤ (cf399 30).toInt := e404
                have e405 : (cf399 33).toInt = (cf 33).toInt := e405
                have e406 : (cf399 38).toInt = (cf 38).toInt := e406
                have e407 : (cf399 48).toInt = (cf 48).toInt := e407
                have e408 : (cf399 46).toInt = (cf 46).toInt := e408
                have e409 : (cf399 47).toInt = (cf 47).toInt := e409
                have e410 : (cf399 57).toInt = (cf 57).toInt := e410
                have e411 : (cf399 37).toInt = (cf 37).toInt := e411
                have e412 : (cf399 42).toInt = (cf 42).toInt := e412
                have e413 : (cf399 43).toInt = (cf 43).toInt := e413
                have e414 : (cf399 44).toInt = (cf 44).toInt := e414
                have e415 : (cf399 45).toInt = (cf 45).toInt := e415
                have e416 : (cf399 54).toInt = (cf 54).toInt := e416
                have e417 : (cf399 55).toInt = (cf 55).toInt := e417
                have e418 : (cf399 58).toInt = (cf 58).toInt := e418
                have e419 : (cf399 59).toInt = (cf 59).toInt := e419
                have e420 : (cf399 41).toInt = (cf 41).toInt := e420
                have hw : pw D A s.heap H locs [wdP cs h r g tf ta pf na ma wa cf399 ca ef ea xf xa] := hw
                exact px_vret S hr hlk hAe hw (Nat.le_of_ble_eq_true rfl) (Nat.le_of_ble_eq_true rfl) (⟨cf399, rfl, (show KpE cf cf399 from hke), (show WrV cf399 (tf 6).toInt from hwr), (show (cf399 33).toInt = (cf 33).toInt from by first | exact e405 | omega), (show (cf399 38).toInt = (cf 38).toInt from by first | exact e406 | omega), (show (cf399 48).toInt = (cf 48).toInt from by first | exact e407 | omega), (show (cf399 46).toInt = (cf 46).toInt from by first | exact e408 | omega), (show (cf399 47).toInt = (cf 47).toInt from by first | exact e409 | omega), (show (cf399 57).toInt = (cf 57).toInt from by first | exact e410 | omega), (show ZPl cf399 na ma p0 p1.toInt from (zr_no (by first | with_reducible rfl | with_reducible assumption | omega)))⟩) d_Mpg_checkPlace_106
            · have nc392 : p1.toInt = (1 : Int) := (i_eq (x := p1) (y := 1)).mp c392
              refine lv_aload_n S.x S.b d_Mpg_checkPlace_65 rfl (lv_at hl 1 rfl) ?_
              refine px_get S k_Mpg hT hw 0 0 35 (v := .ref (r 35)) rfl rfl rfl (by decide) m10_24 d_Mpg_checkPlace_66 ?_
              refine lv_aload_n S.x S.b d_Mpg_checkPlace_69 rfl (lv_at hl 1 rfl) ?_
              refine lv_aload_n S.x S.b d_Mpg_checkPlace_70 rfl (lv_at hl 1 rfl) ?_
              refine px_get S k_Mpg hT hw 0 0 15 (v := .ref (r 15)) rfl rfl rfl (by decide) m9_239 d_Mpg_checkPlace_71 ?_
              refine lv_iload_n S.x S.b d_Mpg_checkPlace_74 rfl (lv_at hl 2 rfl) ?_
              refine px_iald S hT hw 0 11 (n := 2100) (f := (na 15)) rfl gp_15 (x := p0) (vp_in_iff.mpr (by first | exact oz_a7e05de1cd hrg.2.2 hrg.2.1 g1 g2 | (constructor <;> omega))) d_Mpg_checkPlace_75 ?_
              refine lv_topi (fun z421 ez421 => ?_)
              have lz421 := Int32.le_toInt z421
              have uz421 := Int32.toInt_lt z421
              have rz421 := EcV.tok hec_p0 ez421
              refine lv_iconst (v := 0) S.x S.b d_Mpg_checkPlace_76 (by decide) ?_
              refine px_calli (pr := []) (px_runV (As := [.int z421, .int 0]) (rest := [.ref (r 35)]) S (c_mp_find l D cs h r g tf ta pf na ma wa cf ca ef ea xf xa z421 0  (show 0 ≤ z421.toInt from by first | exact rz421.1 | omega) (show z421.toInt < (tf 6).toInt from by first | exact oz_7fe81129bf rz421.2 | omega) (show (tf 6).toInt ≤ 2049 from by first | exact g3 | omega) (show 0 ≤ (0 : Int) from by first | decide | omega) (show 0 ≤ (cf 33).toInt from by first | exact oz_f3ebed1ad0 g4 g5 | omega) htk (KnT.eq hkt (by first | with_reducible rfl | with_reducible assumption | omega)) _) hT (pr := []) (pcs := [wdP cs h r g tf ta pf na ma wa cf ca ef ea xf xa]) hw px_X.tt (px_recv hT hw 0 0 rfl rfl rfl) m12_181 m12_178 m12_180 ms_11_14 m1_21 q_Mpg_find ⟨Nat.le_of_ble_eq_true rfl, Nat.le_of_ble_eq_true rfl⟩ hl.1 rfl (Nat.le_of_ble_eq_true rfl) d_Mpg_checkPlace_77 ⟨Nat.le_of_ble_eq_true rfl, Nat.le_of_ble_eq_true rfl⟩) hw hA (fun v423 p422 H locs hp422 hw => ?_)
              obtain ⟨rfl, e424, e425, e426, e427⟩ := hp422
              have e424 : -1 ≤ v423.toInt := e424
              have e425 : v423.toInt < (cf 33).toInt := e425
              have e426 : 0 ≤ v423.toInt → (0 : Int) ≤ v423.toInt := e426
              have e427 : FndV ta ca (cf 33).toInt z421 (0 : Int) v423.toInt := e427
              have hfd := e427
              have hw : pw D A s.heap H locs [wdP cs h r g tf ta pf na ma wa cf ca ef ea xf xa] := hw
              have lv423 := Int32.le_toInt v423
              have uv423 := Int32.toInt_lt v423
              have hps := nm_pos (hnj (by first | with_reducible rfl | with_reducible assumption | omega)) (by first | with_reducible rfl | with_reducible assumption | omega) hfd ez421 (by first | with_reducible rfl | with_reducible assumption | omega)
              refine px_iald S hT hw 0 24 (n := 1100) (f := (ca 35)) rfl gp_35 (x := v423) (vp_in_iff.mpr (by constructor <;> omega)) d_Mpg_checkPlace_80 ?_
              refine lv_topi (fun z428 ez428 => ?_)
              have lz428 := Int32.le_toInt z428
              have uz428 := Int32.toInt_lt z428
              refine lv_iconst (v := 1) S.x S.b d_Mpg_checkPlace_81 (by decide) ?_
              refine lv_icmp_ne (tgt := 89) S.x S.b d_Mpg_checkPlace_82 (by decide) (fun c429 => ?_) (fun c429 => ?_)
              · have nc429 : ¬ z428.toInt = (1 : Int) := mt (i_eq (x := z428) (y := 1)).mpr c429
                refine lv_iconst (v := 0) S.x S.b d_Mpg_checkPlace_89 (by decide) ?_
                refine lv_istore_n (lv' := [(3, .int 0), (0, .ref h), (1, .int p0), (2, .int p1)]) S.x S.b d_Mpg_checkPlace_90 rfl hl (by decide) rfl (fun ls hl => ?_)
                refine lv_iload_n S.x S.b d_Mpg_checkPlace_91 rfl (lv_at hl 0 rfl) ?_
                refine lv_if_ne (tgt := 106) S.x S.b d_Mpg_checkPlace_92 (by decide) (fun c430 => ?_) (fun c430 => ?_)
                · exact absurd c430 (by decide)
                ·
                  refine lv_aload_n S.x S.b d_Mpg_checkPlace_95 rfl (lv_at hl 1 rfl) ?_
                  refine lv_bipush (v := 6) S.x S.b d_Mpg_checkPlace_96 (by decide) ?_
                  refine lv_aload_n S.x S.b d_Mpg_checkPlace_98 rfl (lv_at hl 1 rfl) ?_
                  refine lv_iload_n S.x S.b d_Mpg_checkPlace_99 rfl (lv_at hl 2 rfl) ?_
                  refine px_calli (pr := []) (px_runV (As := [.int p0]) (rest := [.int 6, .ref h]) S (c_mp_first l D cs h r g tf ta pf na ma wa cf ca ef ea xf xa p0  (show 0 ≤ p0.toInt from by first | exact hrg.2.2 | omega) (show p0.toInt < (pf 13).toInt from by first | exact oz_7319c2f99d g1 hrg.2.1 | omega) (show (pf 13).toInt ≤ 2100 from by first | exact g2 | omega) htk (FsI.le (N' := (pf 13).toInt) hfs (by first | with_reducible rfl | with_reducible assumption | omega)) _) hT (pr := []) (pcs := [wdP cs h r g tf ta pf na ma wa cf ca ef ea xf xa]) hw px_X.tt (px_recv hT hw 0 0 rfl rfl rfl) m13_9 m13_6 m13_8 ms_12_15 m1_21 q_Mpg_first ⟨Nat.le_of_ble_eq_true rfl, Nat.le_of_ble_eq_true rfl⟩ hl.1 rfl (Nat.le_of_ble_eq_true rfl) d_Mpg_checkPlace_100 ⟨Nat.le_of_ble_eq_true rfl, Nat.le_of_ble_eq_true rfl⟩) hw hA (fun v432 p431 H locs hp431 hw => ?_)
                  obtain ⟨rfl, e433, e434⟩ := hp431
                  have e433 : 0 ≤ v432.toInt := e433
                  have e434 : v432.toInt < (tf 6).toInt := e434
                  have hw : pw D A s.heap H locs [wdP cs h r g tf ta pf na ma wa cf ca ef ea xf xa] := hw
                  have lv432 := Int32.le_toInt v432
                  have uv432 := Int32.toInt_lt v432
                  refine px_callv (pr := []) (px_runV (As := [.int 6, .int v432]) (rest := []) S (c_mp_bad l D cs h r g tf ta pf na ma wa ca ef ea xf xa cf 6 v432  (show 1 ≤ (6 : Int) from by first | decide | omega) (show 0 ≤ v432.toInt from by first | exact e433 | omega) (show v432.toInt < (tf 6).toInt from by first | exact e434 | omega) htk hwr _) hT (pr := []) (pcs := [wdP cs h r g tf ta pf na ma wa cf ca ef ea xf xa]) hw px_X.tt (px_recv hT hw 0 0 rfl rfl rfl) m12_173 m12_170 m12_172 ms_11_12 m1_21 q_Mpg_bad ⟨Nat.le_of_ble_eq_true rfl, Nat.le_of_ble_eq_true rfl⟩ hl.1 rfl (Nat.le_of_ble_eq_true rfl) d_Mpg_checkPlace_103 ⟨Nat.le_of_ble_eq_true rfl, Nat.le_of_ble_eq_true rfl⟩) hw hA (fun p437 H locs hp437 hw => ?_)
                  obtain ⟨cf436, rfl, e439, e440, e441, e442, e443, e444, e445, e446, e447, e448, e449, e450, e451, e452, e453, e454, e455, e456, e457⟩ := hp437
                  have e439 : KpE cf cf436 := e439
                  have hke := (hke).tr e439
                  have hkz_e439 := e439.2
                  have e440 : WrV cf436 (tf 6).toInt := e440
                  have hwr := e440
                  have hw0_e440 := hwr.1
                  have e441 : 1 ≤ (cf436 30).toInt := e441
                  have e442 : (cf436 33).toInt = (cf 33).toInt := e442
                  have e443 : (cf436 38).toInt = (cf 38).toInt := e443
                  have e444 : (cf436 48).toInt = (cf 48).toInt := e444
                  have e445 : (cf436 46).toInt = (cf 46).toInt := e445
                  have e446 : (cf436 47).toInt = (cf 47).toInt := e446
                  have e447 : (cf436 57).toInt = (cf 57).toInt := e447
                  have e448 : (cf436 37).toInt = (cf 37).toInt := e448
                  have e449 : (cf436 42).toInt = (cf 42).toInt := e449
                  have e450 : (cf436 43).toInt = (cf 43).toInt := e450
                  have e451 : (cf436 44).toInt = (cf 44).toInt := e451
                  have e452 : (cf436 45).toInt = (cf 45).toInt := e452
                  have e453 : (cf436 54).toInt = (cf 54).toInt := e453
                  have e454 : (cf436 55).toInt = (cf 55).toInt := e454
                  have e455 : (cf436 58).toInt = (cf 58).toInt := e455
                  have e456 : (cf436 59).toInt = (cf 59).toInt := e456
                  have e457 : (cf436 41).toInt = (cf 41).toInt := e457
                  have hw : pw D A s.heap H locs [wdP cs h r g tf ta pf na ma wa cf436 ca ef ea xf xa] := hw
                  exact px_vret S hr hlk hAe hw (Nat.le_of_ble_eq_true rfl) (Nat.le_of_ble_eq_true rfl) (⟨cf436, rfl, (show KpE cf cf436 from hke), (show WrV cf436 (tf 6).toInt from hwr), (show (cf436 33).toInt = (cf 33).toInt from by first | exact e442 | omega), (show (cf436 38).toInt = (cf 38).toInt from by first | exact e443 | omega), (show (cf436 48).toInt = (cf 48).toInt from by first | exact e444 | omega), (show (cf436 46).toInt = (cf 46).toInt from by first | exact e445 | omega), (show (cf436 47).toInt = (cf 47).toInt from by first | exact e446 | omega), (show (cf436 57).toInt = (cf 57).toInt from by first | exact e447 | omega), (show ZPl cf436 na ma p0 p1.toInt from (zr_no (by first | with_reducible rfl | with_reducible assumption | omega)))⟩) d_Mpg_checkPlace_106
              · have nc429 : z428.toInt = (1 : Int) := (i_eq (x := z428) (y := 1)).mp c429
                refine lv_iconst (v := 1) S.x S.b d_Mpg_checkPlace_85 (by decide) ?_
                refine lv_goto (tgt := 90) S.x S.b d_Mpg_checkPlace_86 (by decide) ?_
                refine lv_istore_n (lv' := [(3, .int 1), (0, .ref h), (1, .int p0), (2, .int p1)]) S.x S.b d_Mpg_checkPlace_90 rfl hl (by decide) rfl (fun ls hl => ?_)
                refine lv_iload_n S.x S.b d_Mpg_checkPlace_91 rfl (lv_at hl 0 rfl) ?_
                refine lv_if_ne (tgt := 106) S.x S.b d_Mpg_checkPlace_92 (by decide) (fun c458 => ?_) (fun c458 => ?_)
                ·
                  exact px_vret S hr hlk hAe hw (Nat.le_of_ble_eq_true rfl) (Nat.le_of_ble_eq_true rfl) (⟨cf, rfl, (show KpE cf cf from hke), (show WrV cf (tf 6).toInt from hwr), (show (cf 33).toInt = (cf 33).toInt from rfl), (show (cf 38).toInt = (cf 38).toInt from rfl), (show (cf 48).toInt = (cf 48).toInt from rfl), (show (cf 46).toInt = (cf 46).toInt from rfl), (show (cf 47).toInt = (cf 47).toInt from rfl), (show (cf 57).toInt = (cf 57).toInt from rfl), (show ZPl cf na ma p0 p1.toInt from (fun _ => ⟨⟨by first | with_reducible rfl | with_reducible assumption | omega, by first | with_reducible rfl | with_reducible assumption | omega⟩, (by first | exact Or.inl (by first | with_reducible rfl | with_reducible assumption | omega) | exact Or.inr ⟨by first | with_reducible rfl | with_reducible assumption | omega, Or.inl (by first | with_reducible rfl | with_reducible assumption | omega)⟩ | exact Or.inr ⟨by first | with_reducible rfl | with_reducible assumption | omega, Or.inr ⟨by first | with_reducible rfl | with_reducible assumption | omega, nm_pl (hnj (by first | with_reducible rfl | with_reducible assumption | omega)) (by first | with_reducible rfl | with_reducible assumption | omega) hfd ez421 (by first | with_reducible rfl | with_reducible assumption | omega) hks (by first | with_reducible rfl | with_reducible assumption | omega) ez428 (by first | with_reducible rfl | with_reducible assumption | omega)⟩⟩)⟩))⟩) d_Mpg_checkPlace_106
                · exact absurd c458 (by decide)
        · have nc361 : z360.toInt = (2 : Int) := (i_eq (x := z360) (y := 2)).mp c361
          refine lv_iload_n S.x S.b d_Mpg_checkPlace_40 rfl (lv_at hl 2 rfl) ?_
          refine lv_if_ne (tgt := 48) S.x S.b d_Mpg_checkPlace_41 (by decide) (fun c459 => ?_) (fun c459 => ?_)
          · have nc459 : ¬ p1.toInt = (0 : Int) := mt (i_eq (x := p1) (y := 0)).mpr c459
            refine lv_iconst (v := 0) S.x S.b d_Mpg_checkPlace_48 (by decide) ?_
            refine lv_istore_n (lv' := [(3, .int 0), (0, .ref h), (1, .int p0), (2, .int p1)]) S.x S.b d_Mpg_checkPlace_49 rfl hl (by decide) rfl (fun ls hl => ?_)
            refine lv_aload_n S.x S.b d_Mpg_checkPlace_50 rfl (lv_at hl 1 rfl) ?_
            refine px_get S k_Mpg hT hw 0 0 14 (v := .ref (r 14)) rfl rfl rfl (by decide) m9_238 d_Mpg_checkPlace_51 ?_
            refine lv_iload_n S.x S.b d_Mpg_checkPlace_54 rfl (lv_at hl 2 rfl) ?_
            refine px_bald S hT hw 0 10 (n := 2100) (f := (na 14)) rfl gp_14 (x := p0) (vp_in_iff.mpr (by first | exact oz_a7e05de1cd hrg.2.2 hrg.2.1 g1 g2 | (constructor <;> omega))) d_Mpg_checkPlace_55 ?_
            refine lv_topi (fun z460 ez460 => ?_)
            have lz460 := Int32.le_toInt z460
            have uz460 := Int32.toInt_lt z460
            have rz460 := EcV.kd hec_p0 ez460
            refine lv_iconst (v := 2) S.x S.b d_Mpg_checkPlace_56 (by decide) ?_
            refine lv_icmp_ne (tgt := 91) S.x S.b d_Mpg_checkPlace_57 (by decide) (fun c461 => ?_) (fun c461 => ?_)
            · have nc461 : ¬ z460.toInt = (2 : Int) := mt (i_eq (x := z460) (y := 2)).mpr c461
              refine lv_iload_n S.x S.b d_Mpg_checkPlace_91 rfl (lv_at hl 0 rfl) ?_
              refine lv_if_ne (tgt := 106) S.x S.b d_Mpg_checkPlace_92 (by decide) (fun c462 => ?_) (fun c462 => ?_)
              · exact absurd c462 (by decide)
              ·
                refine lv_aload_n S.x S.b d_Mpg_checkPlace_95 rfl (lv_at hl 1 rfl) ?_
                refine lv_bipush (v := 6) S.x S.b d_Mpg_checkPlace_96 (by decide) ?_
                refine lv_aload_n S.x S.b d_Mpg_checkPlace_98 rfl (lv_at hl 1 rfl) ?_
                refine lv_iload_n S.x S.b d_Mpg_checkPlace_99 rfl (lv_at hl 2 rfl) ?_
                refine px_calli (pr := []) (px_runV (As := [.int p0]) (rest := [.int 6, .ref h]) S (c_mp_first l D cs h r g tf ta pf na ma wa cf ca ef ea xf xa p0  (show 0 ≤ p0.toInt from by first | exact hrg.2.2 | omega) (show p0.toInt < (pf 13).toInt from by first | exact oz_7319c2f99d g1 hrg.2.1 | omega) (show (pf 13).toInt ≤ 2100 from by first | exact g2 | omega) htk (FsI.le (N' := (pf 13).toInt) hfs (by first | with_reducible rfl | with_reducible assumption | omega)) _) hT (pr := []) (pcs := [wdP cs h r g tf ta pf na ma wa cf ca ef ea xf xa]) hw px_X.tt (px_recv hT hw 0 0 rfl rfl rfl) m13_9 m13_6 m13_8 ms_12_15 m1_21 q_Mpg_first ⟨Nat.le_of_ble_eq_true rfl, Nat.le_of_ble_eq_true rfl⟩ hl.1 rfl (Nat.le_of_ble_eq_true rfl) d_Mpg_checkPlace_100 ⟨Nat.le_of_ble_eq_true rfl, Nat.le_of_ble_eq_true rfl⟩) hw hA (fun v464 p463 H locs hp463 hw => ?_)
                obtain ⟨rfl, e465, e466⟩ := hp463
                have e465 : 0 ≤ v464.toInt := e465
                have e466 : v464.toInt < (tf 6).toInt := e466
                have hw : pw D A s.heap H locs [wdP cs h r g tf ta pf na ma wa cf ca ef ea xf xa] := hw
                have lv464 := Int32.le_toInt v464
                have uv464 := Int32.toInt_lt v464
                refine px_callv (pr := []) (px_runV (As := [.int 6, .int v464]) (rest := []) S (c_mp_bad l D cs h r g tf ta pf na ma wa ca ef ea xf xa cf 6 v464  (show 1 ≤ (6 : Int) from by first | decide | omega) (show 0 ≤ v464.toInt from by first | exact e465 | omega) (show v464.toInt < (tf 6).toInt from by first | exact e466 | omega) htk hwr _) hT (pr := []) (pcs := [wdP cs h r g tf ta pf na ma wa cf ca ef ea xf xa]) hw px_X.tt (px_recv hT hw 0 0 rfl rfl rfl) m12_173 m12_170 m12_172 ms_11_12 m1_21 q_Mpg_bad ⟨Nat.le_of_ble_eq_true rfl, Nat.le_of_ble_eq_true rfl⟩ hl.1 rfl (Nat.le_of_ble_eq_true rfl) d_Mpg_checkPlace_103 ⟨Nat.le_of_ble_eq_true rfl, Nat.le_of_ble_eq_true rfl⟩) hw hA (fun p469 H locs hp469 hw => ?_)
                obtain ⟨cf468, rfl, e471, e472, e473, e474, e475, e476, e477, e478, e479, e480, e481, e482, e483, e484, e485, e486, e487, e488, e489⟩ := hp469
                have e471 : KpE cf cf468 := e471
                have hke := (hke).tr e471
                have hkz_e471 := e471.2
                have e472 : WrV cf468 (tf 6).toInt := e472
                have hwr := e472
                have hw0_e472 := hwr.1
                have e473 : 1 ≤ (cf468 30).toInt := e473
                have e474 : (cf468 33).toInt = (cf 33).toInt := e474
                have e475 : (cf468 38).toInt = (cf 38).toInt := e475
                have e476 : (cf468 48).toInt = (cf 48).toInt := e476
                have e477 : (cf468 46).toInt = (cf 46).toInt := e477
                have e478 : (cf468 47).toInt = (cf 47).toInt := e478
                have e479 : (cf468 57).toInt = (cf 57).toInt := e479
                have e480 : (cf468 37).toInt = (cf 37).toInt := e480
                have e481 : (cf468 42).toInt = (cf 42).toInt := e481
                have e482 : (cf468 43).toInt = (cf 43).toInt := e482
                have e483 : (cf468 44).toInt = (cf 44).toInt := e483
                have e484 : (cf468 45).toInt = (cf 45).toInt := e484
                have e485 : (cf468 54).toInt = (cf 54).toInt := e485
                have e486 : (cf468 55).toInt = (cf 55).toInt := e486
                have e487 : (cf468 58).toInt = (cf 58).toInt := e487
                have e488 : (cf468 59).toInt = (cf 59).toInt := e488
                have e489 : (cf468 41).toInt = (cf 41).toInt := e489
                have hw : pw D A s.heap H locs [wdP cs h r g tf ta pf na ma wa cf468 ca ef ea xf xa] := hw
                exact px_vret S hr hlk hAe hw (Nat.le_of_ble_eq_true rfl) (Nat.le_of_ble_eq_true rfl) (⟨cf468, rfl, (show KpE cf cf468 from hke), (show WrV cf468 (tf 6).toInt from hwr), (show (cf468 33).toInt = (cf 33).toInt from by first | exact e474 | omega), (show (cf468 38).toInt = (cf 38).toInt from by first | exact e475 | omega), (show (cf468 48).toInt = (cf 48).toInt from by first | exact e476 | omega), (show (cf468 46).toInt = (cf 46).toInt from by first | exact e477 | omega), (show (cf468 47).toInt = (cf 47).toInt from by first | exact e478 | omega), (show (cf468 57).toInt = (cf 57).toInt from by first | exact e479 | omega), (show ZPl cf468 na ma p0 p1.toInt from (zr_no (by first | with_reducible rfl | with_reducible assumption | omega)))⟩) d_Mpg_checkPlace_106
            · have nc461 : z460.toInt = (2 : Int) := (i_eq (x := z460) (y := 2)).mp c461
              refine lv_iload_n S.x S.b d_Mpg_checkPlace_60 rfl (lv_at hl 3 rfl) ?_
              refine lv_iconst (v := 1) S.x S.b d_Mpg_checkPlace_61 (by decide) ?_
              refine lv_icmp_ne (tgt := 91) S.x S.b d_Mpg_checkPlace_62 (by decide) (fun c490 => ?_) (fun c490 => ?_)
              · have nc490 : ¬ p1.toInt = (1 : Int) := mt (i_eq (x := p1) (y := 1)).mpr c490
                refine lv_iload_n S.x S.b d_Mpg_checkPlace_91 rfl (lv_at hl 0 rfl) ?_
                refine lv_if_ne (tgt := 106) S.x S.b d_Mpg_checkPlace_92 (by decide) (fun c491 => ?_) (fun c491 => ?_)
                · exact absurd c491 (by decide)
                ·
                  refine lv_aload_n S.x S.b d_Mpg_checkPlace_95 rfl (lv_at hl 1 rfl) ?_
                  refine lv_bipush (v := 6) S.x S.b d_Mpg_checkPlace_96 (by decide) ?_
                  refine lv_aload_n S.x S.b d_Mpg_checkPlace_98 rfl (lv_at hl 1 rfl) ?_
                  refine lv_iload_n S.x S.b d_Mpg_checkPlace_99 rfl (lv_at hl 2 rfl) ?_
                  refine px_calli (pr := []) (px_runV (As := [.int p0]) (rest := [.int 6, .ref h]) S (c_mp_first l D cs h r g tf ta pf na ma wa cf ca ef ea xf xa p0  (show 0 ≤ p0.toInt from by first | exact hrg.2.2 | omega) (show p0.toInt < (pf 13).toInt from by first | exact oz_7319c2f99d g1 hrg.2.1 | omega) (show (pf 13).toInt ≤ 2100 from by first | exact g2 | omega) htk (FsI.le (N' := (pf 13).toInt) hfs (by first | with_reducible rfl | with_reducible assumption | omega)) _) hT (pr := []) (pcs := [wdP cs h r g tf ta pf na ma wa cf ca ef ea xf xa]) hw px_X.tt (px_recv hT hw 0 0 rfl rfl rfl) m13_9 m13_6 m13_8 ms_12_15 m1_21 q_Mpg_first ⟨Nat.le_of_ble_eq_true rfl, Nat.le_of_ble_eq_true rfl⟩ hl.1 rfl (Nat.le_of_ble_eq_true rfl) d_Mpg_checkPlace_100 ⟨Nat.le_of_ble_eq_true rfl, Nat.le_of_ble_eq_true rfl⟩) hw hA (fun v493 p492 H locs hp492 hw => ?_)
                  obtain ⟨rfl, e494, e495⟩ := hp492
                  have e494 : 0 ≤ v493.toInt := e494
                  have e495 : v493.toInt < (tf 6).toInt := e495
                  have hw : pw D A s.heap H locs [wdP cs h r g tf ta pf na ma wa cf ca ef ea xf xa] := hw
                  have lv493 := Int32.le_toInt v493
                  have uv493 := Int32.toInt_lt v493
                  refine px_callv (pr := []) (px_runV (As := [.int 6, .int v493]) (rest := []) S (c_mp_bad l D cs h r g tf ta pf na ma wa ca ef ea xf xa cf 6 v493  (show 1 ≤ (6 : Int) from by first | decide | omega) (show 0 ≤ v493.toInt from by first | exact e494 | omega) (show v493.toInt < (tf 6).toInt from by first | exact e495 | omega) htk hwr _) hT (pr := []) (pcs := [wdP cs h r g tf ta pf na ma wa cf ca ef ea xf xa]) hw px_X.tt (px_recv hT hw 0 0 rfl rfl rfl) m12_173 m12_170 m12_172 ms_11_12 m1_21 q_Mpg_bad ⟨Nat.le_of_ble_eq_true rfl, Nat.le_of_ble_eq_true rfl⟩ hl.1 rfl (Nat.le_of_ble_eq_true rfl) d_Mpg_checkPlace_103 ⟨Nat.le_of_ble_eq_true rfl, Nat.le_of_ble_eq_true rfl⟩) hw hA (fun p498 H locs hp498 hw => ?_)
                  obtain ⟨cf497, rfl, e500, e501, e502, e503, e504, e505, e506, e507, e508, e509, e510, e511, e512, e513, e514, e515, e516, e517, e518⟩ := hp498
                  have e500 : KpE cf cf497 := e500
                  have hke := (hke).tr e500
                  have hkz_e500 := e500.2
                  have e501 : WrV cf497 (tf 6).toInt := e501
                  have hwr := e501
                  have hw0_e501 := hwr.1
                  have e502 : 1 ≤ (cf497 30).toInt := e502
                  have e503 : (cf497 33).toInt = (cf 33).toInt := e503
                  have e504 : (cf497 38).toInt = (cf 38).toInt := e504
                  have e505 : (cf497 48).toInt = (cf 48).toInt := e505
                  have e506 : (cf497 46).toInt = (cf 46).toInt := e506
                  have e507 : (cf497 47).toInt = (cf 47).toInt := e507
                  have e508 : (cf497 57).toInt = (cf 57).toInt := e508
                  have e509 : (cf497 37).toInt = (cf 37).toInt := e509
                  have e510 : (cf497 42).toInt = (cf 42).toInt := e510
                  have e511 : (cf497 43).toInt = (cf 43).toInt := e511
                  have e512 : (cf497 44).toInt = (cf 44).toInt := e512
                  have e513 : (cf497 45).toInt = (cf 45).toInt := e513
                  have e514 : (cf497 54).toInt = (cf 54).toInt := e514
                  have e515 : (cf497 55).toInt = (cf 55).toInt := e515
                  have e516 : (cf497 58).toInt = (cf 58).toInt := e516
                  have e517 : (cf497 59).toInt = (cf 59).toInt := e517
                  have e518 : (cf497 41).toInt = (cf 41).toInt := e518
                  have hw : pw D A s.heap H locs [wdP cs h r g tf ta pf na ma wa cf497 ca ef ea xf xa] := hw
                  exact px_vret S hr hlk hAe hw (Nat.le_of_ble_eq_true rfl) (Nat.le_of_ble_eq_true rfl) (⟨cf497, rfl, (show KpE cf cf497 from hke), (show WrV cf497 (tf 6).toInt from hwr), (show (cf497 33).toInt = (cf 33).toInt from by first | exact e503 | omega), (show (cf497 38).toInt = (cf 38).toInt from by first | exact e504 | omega), (show (cf497 48).toInt = (cf 48).toInt from by first | exact e505 | omega), (show (cf497 46).toInt = (cf 46).toInt from by first | exact e506 | omega), (show (cf497 47).toInt = (cf 47).toInt from by first | exact e507 | omega), (show (cf497 57).toInt = (cf 57).toInt from by first | exact e508 | omega), (show ZPl cf497 na ma p0 p1.toInt from (zr_no (by first | with_reducible rfl | with_reducible assumption | omega)))⟩) d_Mpg_checkPlace_106
              · have nc490 : p1.toInt = (1 : Int) := (i_eq (x := p1) (y := 1)).mp c490
                refine lv_aload_n S.x S.b d_Mpg_checkPlace_65 rfl (lv_at hl 1 rfl) ?_
                refine px_get S k_Mpg hT hw 0 0 35 (v := .ref (r 35)) rfl rfl rfl (by decide) m10_24 d_Mpg_checkPlace_66 ?_
                refine lv_aload_n S.x S.b d_Mpg_checkPlace_69 rfl (lv_at hl 1 rfl) ?_
                refine lv_aload_n S.x S.b d_Mpg_checkPlace_70 rfl (lv_at hl 1 rfl) ?_
                refine px_get S k_Mpg hT hw 0 0 15 (v := .ref (r 15)) rfl rfl rfl (by decide) m9_239 d_Mpg_checkPlace_71 ?_
                refine lv_iload_n S.x S.b d_Mpg_checkPlace_74 rfl (lv_at hl 2 rfl) ?_
                refine px_iald S hT hw 0 11 (n := 2100) (f := (na 15)) rfl gp_15 (x := p0) (vp_in_iff.mpr (by first | exact oz_a7e05de1cd hrg.2.2 hrg.2.1 g1 g2 | (constructor <;> omega))) d_Mpg_checkPlace_75 ?_
                refine lv_topi (fun z519 ez519 => ?_)
                have lz519 := Int32.le_toInt z519
                have uz519 := Int32.toInt_lt z519
                have rz519 := EcV.tok hec_p0 ez519
                refine lv_iconst (v := 0) S.x S.b d_Mpg_checkPlace_76 (by decide) ?_
                refine px_calli (pr := []) (px_runV (As := [.int z519, .int 0]) (rest := [.ref (r 35)]) S (c_mp_find l D cs h r g tf ta pf na ma wa cf ca ef ea xf xa z519 0  (show 0 ≤ z519.toInt from by first | exact rz519.1 | omega) (show z519.toInt < (tf 6).toInt from by first | exact oz_7fe81129bf rz519.2 | omega) (show (tf 6).toInt ≤ 2049 from by first | exact g3 | omega) (show 0 ≤ (0 : Int) from by first | decide | omega) (show 0 ≤ (cf 33).toInt from by first | exact oz_f3ebed1ad0 g4 g5 | omega) htk (KnT.eq hkt (by first | with_reducible rfl | with_reducible assumption | omega)) _) hT (pr := []) (pcs := [wdP cs h r g tf ta pf na ma wa cf ca ef ea xf xa]) hw px_X.tt (px_recv hT hw 0 0 rfl rfl rfl) m12_181 m12_178 m12_180 ms_11_14 m1_21 q_Mpg_find ⟨Nat.le_of_ble_eq_true rfl, Nat.le_of_ble_eq_true rfl⟩ hl.1 rfl (Nat.le_of_ble_eq_true rfl) d_Mpg_checkPlace_77 ⟨Nat.le_of_ble_eq_true rfl, Nat.le_of_ble_eq_true rfl⟩) hw hA (fun v521 p520 H locs hp520 hw => ?_)
                obtain ⟨rfl, e522, e523, e524, e525⟩ := hp520
                have e522 : -1 ≤ v521.toInt := e522
                have e523 : v521.toInt < (cf 33).toInt := e523
                have e524 : 0 ≤ v521.toInt → (0 : Int) ≤ v521.toInt := e524
                have e525 : FndV ta ca (cf 33).toInt z519 (0 : Int) v521.toInt := e525
                have hfd := e525
                have hw : pw D A s.heap H locs [wdP cs h r g tf ta pf na ma wa cf ca ef ea xf xa] := hw
                have lv521 := Int32.le_toInt v521
                have uv521 := Int32.toInt_lt v521
                have hps := nm_pos (hnj (by first | with_reducible rfl | with_reducible assumption | omega)) (by first | with_reducible rfl | with_reducible assumption | omega) hfd ez519 (by first | with_reducible rfl | with_reducible assumption | omega)
                refine px_iald S hT hw 0 24 (n := 1100) (f := (ca 35)) rfl gp_35 (x := v521) (vp_in_iff.mpr (by constructor <;> omega)) d_Mpg_checkPlace_80 ?_
                refine lv_topi (fun z526 ez526 => ?_)
                have lz526 := Int32.le_toInt z526
                have uz526 := Int32.toInt_lt z526
                refine lv_iconst (v := 1) S.x S.b d_Mpg_checkPlace_81 (by decide) ?_
                refine lv_icmp_ne (tgt := 89) S.x S.b d_Mpg_checkPlace_82 (by decide) (fun c527 => ?_) (fun c527 => ?_)
                · have nc527 : ¬ z526.toInt = (1 : Int) := mt (i_eq (x := z526) (y := 1)).mpr c527
                  refine lv_iconst (v := 0) S.x S.b d_Mpg_checkPlace_89 (by decide) ?_
                  refine lv_istore_n (lv' := [(3, .int 0), (0, .ref h), (1, .int p0), (2, .int p1)]) S.x S.b d_Mpg_checkPlace_90 rfl hl (by decide) rfl (fun ls hl => ?_)
                  refine lv_iload_n S.x S.b d_Mpg_checkPlace_91 rfl (lv_at hl 0 rfl) ?_
                  refine lv_if_ne (tgt := 106) S.x S.b d_Mpg_checkPlace_92 (by decide) (fun c528 => ?_) (fun c528 => ?_)
                  · exact absurd c528 (by decide)
                  ·
                    refine lv_aload_n S.x S.b d_Mpg_checkPlace_95 rfl (lv_at hl 1 rfl) ?_
                    refine lv_bipush (v := 6) S.x S.b d_Mpg_checkPlace_96 (by decide) ?_
                    refine lv_aload_n S.x S.b d_Mpg_checkPlace_98 rfl (lv_at hl 1 rfl) ?_
                    refine lv_iload_n S.x S.b d_Mpg_checkPlace_99 rfl (lv_at hl 2 rfl) ?_
                    refine px_calli (pr := []) (px_runV (As := [.int p0]) (rest := [.int 6, .ref h]) S (c_mp_first l D cs h r g tf ta pf na ma wa cf ca ef ea xf xa p0  (show 0 ≤ p0.toInt from by first | exact hrg.2.2 | omega) (show p0.toInt < (pf 13).toInt from by first | exact oz_7319c2f99d g1 hrg.2.1 | omega) (show (pf 13).toInt ≤ 2100 from by first | exact g2 | omega) htk (FsI.le (N' := (pf 13).toInt) hfs (by first | with_reducible rfl | with_reducible assumption | omega)) _) hT (pr := []) (pcs := [wdP cs h r g tf ta pf na ma wa cf ca ef ea xf xa]) hw px_X.tt (px_recv hT hw 0 0 rfl rfl rfl) m13_9 m13_6 m13_8 ms_12_15 m1_21 q_Mpg_first ⟨Nat.le_of_ble_eq_true rfl, Nat.le_of_ble_eq_true rfl⟩ hl.1 rfl (Nat.le_of_ble_eq_true rfl) d_Mpg_checkPlace_100 ⟨Nat.le_of_ble_eq_true rfl, Nat.le_of_ble_eq_true rfl⟩) hw hA (fun v530 p529 H locs hp529 hw => ?_)
                    obtain ⟨rfl, e531, e532⟩ := hp529
                    have e531 : 0 ≤ v530.toInt := e531
                    have e532 : v530.toInt < (tf 6).toInt := e532
                    have hw : pw D A s.heap H locs [wdP cs h r g tf ta pf na ma wa cf ca ef ea xf xa] := hw
                    have lv530 := Int32.le_toInt v530
                    have uv530 := Int32.toInt_lt v530
                    refine px_callv (pr := []) (px_runV (As := [.int 6, .int v530]) (rest := []) S (c_mp_bad l D cs h r g tf ta pf na ma wa ca ef ea xf xa cf 6 v530  (show 1 ≤ (6 : Int) from by first | decide | omega) (show 0 ≤ v530.toInt from by first | exact e531 | omega) (show v530.toInt < (tf 6).toInt from by first | exact e532 | omega) htk hwr _) hT (pr := []) (pcs := [wdP cs h r g tf ta pf na ma wa cf ca ef ea xf xa]) hw px_X.tt (px_recv hT hw 0 0 rfl rfl rfl) m12_173 m12_170 m12_172 ms_11_12 m1_21 q_Mpg_bad ⟨Nat.le_of_ble_eq_true rfl, Nat.le_of_ble_eq_true rfl⟩ hl.1 rfl (Nat.le_of_ble_eq_true rfl) d_Mpg_checkPlace_103 ⟨Nat.le_of_ble_eq_true rfl, Nat.le_of_ble_eq_true rfl⟩) hw hA (fun p535 H locs hp535 hw => ?_)
                    obtain ⟨cf534, rfl, e537, e538, e539, e540, e541, e542, e543, e544, e545, e546, e547, e548, e549, e550, e551, e552, e553, e554, e555⟩ := hp535
                    have e537 : KpE cf cf534 := e537
                    have hke := (hke).tr e537
                    have hkz_e537 := e537.2
                    have e538 : WrV cf534 (tf 6).toInt := e538
                    have hwr := e538
                    have hw0_e538 := hwr.1
                    have e539 : 1 ≤ (cf534 30).toInt := e539
                    have e540 : (cf534 33).toInt = (cf 33).toInt := e540
                    have e541 : (cf534 38).toInt = (cf 38).toInt := e541
                    have e542 : (cf534 48).toInt = (cf 48).toInt := e542
                    have e543 : (cf534 46).toInt = (cf 46).toInt := e543
                    have e544 : (cf534 47).toInt = (cf 47).toInt := e544
                    have e545 : (cf534 57).toInt = (cf 57).toInt := e545
                    have e546 : (cf534 37).toInt = (cf 37).toInt := e546
                    have e547 : (cf534 42).toInt = (cf 42).toInt := e547
                    have e548 : (cf534 43).toInt = (cf 43).toInt := e548
                    have e549 : (cf534 44).toInt = (cf 44).toInt := e549
                    have e550 : (cf534 45).toInt = (cf 45).toInt := e550
                    have e551 : (cf534 54).toInt = (cf 54).toInt := e551
                    have e552 : (cf534 55).toInt = (cf 55).toInt := e552
                    have e553 : (cf534 58).toInt = (cf 58).toInt := e553
                    have e554 : (cf534 59).toInt = (cf 59).toInt := e554
                    have e555 : (cf534 41).toInt = (cf 41).toInt := e555
                    have hw : pw D A s.heap H locs [wdP cs h r g tf ta pf na ma wa cf534 ca ef ea xf xa] := hw
                    exact px_vret S hr hlk hAe hw (Nat.le_of_ble_eq_true rfl) (Nat.le_of_ble_eq_true rfl) (⟨cf534, rfl, (show KpE cf cf534 from hke), (show WrV cf534 (tf 6).toInt from hwr), (show (cf534 33).toInt = (cf 33).toInt from by first | exact e540 | omega), (show (cf534 38).toInt = (cf 38).toInt from by first | exact e541 | omega), (show (cf534 48).toInt = (cf 48).toInt from by first | exact e542 | omega), (show (cf534 46).toInt = (cf 46).toInt from by first | exact e543 | omega), (show (cf534 47).toInt = (cf 47).toInt from by first | exact e544 | omega), (show (cf534 57).toInt = (cf 57).toInt from by first | exact e545 | omega), (show ZPl cf534 na ma p0 p1.toInt from (zr_no (by first | with_reducible rfl | with_reducible assumption | omega)))⟩) d_Mpg_checkPlace_106
                · have nc527 : z526.toInt = (1 : Int) := (i_eq (x := z526) (y := 1)).mp c527
                  refine lv_iconst (v := 1) S.x S.b d_Mpg_checkPlace_85 (by decide) ?_
                  refine lv_goto (tgt := 90) S.x S.b d_Mpg_checkPlace_86 (by decide) ?_
                  refine lv_istore_n (lv' := [(3, .int 1), (0, .ref h), (1, .int p0), (2, .int p1)]) S.x S.b d_Mpg_checkPlace_90 rfl hl (by decide) rfl (fun ls hl => ?_)
                  refine lv_iload_n S.x S.b d_Mpg_checkPlace_91 rfl (lv_at hl 0 rfl) ?_
                  refine lv_if_ne (tgt := 106) S.x S.b d_Mpg_checkPlace_92 (by decide) (fun c556 => ?_) (fun c556 => ?_)
                  ·
                    exact px_vret S hr hlk hAe hw (Nat.le_of_ble_eq_true rfl) (Nat.le_of_ble_eq_true rfl) (⟨cf, rfl, (show KpE cf cf from hke), (show WrV cf (tf 6).toInt from hwr), (show (cf 33).toInt = (cf 33).toInt from rfl), (show (cf 38).toInt = (cf 38).toInt from rfl), (show (cf 48).toInt = (cf 48).toInt from rfl), (show (cf 46).toInt = (cf 46).toInt from rfl), (show (cf 47).toInt = (cf 47).toInt from rfl), (show (cf 57).toInt = (cf 57).toInt from rfl), (show ZPl cf na ma p0 p1.toInt from (fun _ => ⟨⟨by first | with_reducible rfl | with_reducible assumption | omega, by first | with_reducible rfl | with_reducible assumption | omega⟩, (by first | exact Or.inl (by first | with_reducible rfl | with_reducible assumption | omega) | exact Or.inr ⟨by first | with_reducible rfl | with_reducible assumption | omega, Or.inl (by first | with_reducible rfl | with_reducible assumption | omega)⟩ | exact Or.inr ⟨by first | with_reducible rfl | with_reducible assumption | omega, Or.inr ⟨by first | with_reducible rfl | with_reducible assumption | omega, nm_pl (hnj (by first | with_reducible rfl | with_reducible assumption | omega)) (by first | with_reducible rfl | with_reducible assumption | omega) hfd ez519 (by first | with_reducible rfl | with_reducible assumption | omega) hks (by first | with_reducible rfl | with_reducible assumption | omega) ez526 (by first | with_reducible rfl | with_reducible assumption | omega)⟩⟩)⟩))⟩) d_Mpg_checkPlace_106
                  · exact absurd c556 (by decide)
          · have nc459 : p1.toInt = (0 : Int) := (i_eq (x := p1) (y := 0)).mp c459
            refine lv_iconst (v := 1) S.x S.b d_Mpg_checkPlace_44 (by decide) ?_
            refine lv_goto (tgt := 49) S.x S.b d_Mpg_checkPlace_45 (by decide) ?_
            refine lv_istore_n (lv' := [(3, .int 1), (0, .ref h), (1, .int p0), (2, .int p1)]) S.x S.b d_Mpg_checkPlace_49 rfl hl (by decide) rfl (fun ls hl => ?_)
            refine lv_aload_n S.x S.b d_Mpg_checkPlace_50 rfl (lv_at hl 1 rfl) ?_
            refine px_get S k_Mpg hT hw 0 0 14 (v := .ref (r 14)) rfl rfl rfl (by decide) m9_238 d_Mpg_checkPlace_51 ?_
            refine lv_iload_n S.x S.b d_Mpg_checkPlace_54 rfl (lv_at hl 2 rfl) ?_
            refine px_bald S hT hw 0 10 (n := 2100) (f := (na 14)) rfl gp_14 (x := p0) (vp_in_iff.mpr (by first | exact oz_a7e05de1cd hrg.2.2 hrg.2.1 g1 g2 | (constructor <;> omega))) d_Mpg_checkPlace_55 ?_
            refine lv_topi (fun z557 ez557 => ?_)
            have lz557 := Int32.le_toInt z557
            have uz557 := Int32.toInt_lt z557
            have rz557 := EcV.kd hec_p0 ez557
            refine lv_iconst (v := 2) S.x S.b d_Mpg_checkPlace_56 (by decide) ?_
            refine lv_icmp_ne (tgt := 91) S.x S.b d_Mpg_checkPlace_57 (by decide) (fun c558 => ?_) (fun c558 => ?_)
            · have nc558 : ¬ z557.toInt = (2 : Int) := mt (i_eq (x := z557) (y := 2)).mpr c558
              refine lv_iload_n S.x S.b d_Mpg_checkPlace_91 rfl (lv_at hl 0 rfl) ?_
              refine lv_if_ne (tgt := 106) S.x S.b d_Mpg_checkPlace_92 (by decide) (fun c559 => ?_) (fun c559 => ?_)
              ·
                exact px_vret S hr hlk hAe hw (Nat.le_of_ble_eq_true rfl) (Nat.le_of_ble_eq_true rfl) (⟨cf, rfl, (show KpE cf cf from hke), (show WrV cf (tf 6).toInt from hwr), (show (cf 33).toInt = (cf 33).toInt from rfl), (show (cf 38).toInt = (cf 38).toInt from rfl), (show (cf 48).toInt = (cf 48).toInt from rfl), (show (cf 46).toInt = (cf 46).toInt from rfl), (show (cf 47).toInt = (cf 47).toInt from rfl), (show (cf 57).toInt = (cf 57).toInt from rfl), (show ZPl cf na ma p0 p1.toInt from (fun _ => ⟨⟨by first | with_reducible rfl | with_reducible assumption | omega, by first | with_reducible rfl | with_reducible assumption | omega⟩, (by first | exact Or.inl (by first | with_reducible rfl | with_reducible assumption | omega) | exact Or.inr ⟨by first | with_reducible rfl | with_reducible assumption | omega, Or.inl (by first | with_reducible rfl | with_reducible assumption | omega)⟩ | exact Or.inr ⟨by first | with_reducible rfl | with_reducible assumption | omega, Or.inr ⟨by first | with_reducible rfl | with_reducible assumption | omega, nm_pl (hnj (by first | with_reducible rfl | with_reducible assumption | omega)) (by first | with_reducible rfl | with_reducible assumption | omega) hfd ez519 (by first | with_reducible rfl | with_reducible assumption | omega) hks (by first | with_reducible rfl | with_reducible assumption | omega) ez526 (by first | with_reducible rfl | with_reducible assumption | omega)⟩⟩)⟩))⟩) d_Mpg_checkPlace_106
              · exact absurd c559 (by decide)
            · have nc558 : z557.toInt = (2 : Int) := (i_eq (x := z557) (y := 2)).mp c558
              refine lv_iload_n S.x S.b d_Mpg_checkPlace_60 rfl (lv_at hl 3 rfl) ?_
              refine lv_iconst (v := 1) S.x S.b d_Mpg_checkPlace_61 (by decide) ?_
              refine lv_icmp_ne (tgt := 91) S.x S.b d_Mpg_checkPlace_62 (by decide) (fun c560 => ?_) (fun c560 => ?_)
              · have nc560 : ¬ p1.toInt = (1 : Int) := mt (i_eq (x := p1) (y := 1)).mpr c560
                refine lv_iload_n S.x S.b d_Mpg_checkPlace_91 rfl (lv_at hl 0 rfl) ?_
                refine lv_if_ne (tgt := 106) S.x S.b d_Mpg_checkPlace_92 (by decide) (fun c561 => ?_) (fun c561 => ?_)
                ·
                  exact px_vret S hr hlk hAe hw (Nat.le_of_ble_eq_true rfl) (Nat.le_of_ble_eq_true rfl) (⟨cf, rfl, (show KpE cf cf from hke), (show WrV cf (tf 6).toInt from hwr), (show (cf 33).toInt = (cf 33).toInt from rfl), (show (cf 38).toInt = (cf 38).toInt from rfl), (show (cf 48).toInt = (cf 48).toInt from rfl), (show (cf 46).toInt = (cf 46).toInt from rfl), (show (cf 47).toInt = (cf 47).toInt from rfl), (show (cf 57).toInt = (cf 57).toInt from rfl), (show ZPl cf na ma p0 p1.toInt from (fun _ => ⟨⟨by first | with_reducible rfl | with_reducible assumption | omega, by first | with_reducible rfl | with_reducible assumption | omega⟩, (by first | exact Or.inl (by first | with_reducible rfl | with_reducible assumption | omega) | exact Or.inr ⟨by first | with_reducible rfl | with_reducible assumption | omega, Or.inl (by first | with_reducible rfl | with_reducible assumption | omega)⟩ | exact Or.inr ⟨by first | with_reducible rfl | with_reducible assumption | omega, Or.inr ⟨by first | with_reducible rfl | with_reducible assumption | omega, nm_pl (hnj (by first | with_reducible rfl | with_reducible assumption | omega)) (by first | with_reducible rfl | with_reducible assumption | omega) hfd ez519 (by first | with_reducible rfl | with_reducible assumption | omega) hks (by first | with_reducible rfl | with_reducible assumption | omega) ez526 (by first | with_reducible rfl | with_reducible assumption | omega)⟩⟩)⟩))⟩) d_Mpg_checkPlace_106
                · exact absurd c561 (by decide)
              · have nc560 : p1.toInt = (1 : Int) := (i_eq (x := p1) (y := 1)).mp c560
                refine lv_aload_n S.x S.b d_Mpg_checkPlace_65 rfl (lv_at hl 1 rfl) ?_
                refine px_get S k_Mpg hT hw 0 0 35 (v := .ref (r 35)) rfl rfl rfl (by decide) m10_24 d_Mpg_checkPlace_66 ?_
                refine lv_aload_n S.x S.b d_Mpg_checkPlace_69 rfl (lv_at hl 1 rfl) ?_
                refine lv_aload_n S.x S.b d_Mpg_checkPlace_70 rfl (lv_at hl 1 rfl) ?_
                refine px_get S k_Mpg hT hw 0 0 15 (v := .ref (r 15)) rfl rfl rfl (by decide) m9_239 d_Mpg_checkPlace_71 ?_
                refine lv_iload_n S.x S.b d_Mpg_checkPlace_74 rfl (lv_at hl 2 rfl) ?_
                refine px_iald S hT hw 0 11 (n := 2100) (f := (na 15)) rfl gp_15 (x := p0) (vp_in_iff.mpr (by first | exact oz_a7e05de1cd hrg.2.2 hrg.2.1 g1 g2 | (constructor <;> omega))) d_Mpg_checkPlace_75 ?_
                refine lv_topi (fun z562 ez562 => ?_)
                have lz562 := Int32.le_toInt z562
                have uz562 := Int32.toInt_lt z562
                have rz562 := EcV.tok hec_p0 ez562
                refine lv_iconst (v := 0) S.x S.b d_Mpg_checkPlace_76 (by decide) ?_
                refine px_calli (pr := []) (px_runV (As := [.int z562, .int 0]) (rest := [.ref (r 35)]) S (c_mp_find l D cs h r g tf ta pf na ma wa cf ca ef ea xf xa z562 0  (show 0 ≤ z562.toInt from by first | exact rz562.1 | omega) (show z562.toInt < (tf 6).toInt from by first | exact oz_7fe81129bf rz562.2 | omega) (show (tf 6).toInt ≤ 2049 from by first | exact g3 | omega) (show 0 ≤ (0 : Int) from by first | decide | omega) (show 0 ≤ (cf 33).toInt from by first | exact oz_f3ebed1ad0 g4 g5 | omega) htk (KnT.eq hkt (by first | with_reducible rfl | with_reducible assumption | omega)) _) hT (pr := []) (pcs := [wdP cs h r g tf ta pf na ma wa cf ca ef ea xf xa]) hw px_X.tt (px_recv hT hw 0 0 rfl rfl rfl) m12_181 m12_178 m12_180 ms_11_14 m1_21 q_Mpg_find ⟨Nat.le_of_ble_eq_true rfl, Nat.le_of_ble_eq_true rfl⟩ hl.1 rfl (Nat.le_of_ble_eq_true rfl) d_Mpg_checkPlace_77 ⟨Nat.le_of_ble_eq_true rfl, Nat.le_of_ble_eq_true rfl⟩) hw hA (fun v564 p563 H locs hp563 hw => ?_)
                obtain ⟨rfl, e565, e566, e567, e568⟩ := hp563
                have e565 : -1 ≤ v564.toInt := e565
                have e566 : v564.toInt < (cf 33).toInt := e566
                have e567 : 0 ≤ v564.toInt → (0 : Int) ≤ v564.toInt := e567
                have e568 : FndV ta ca (cf 33).toInt z562 (0 : Int) v564.toInt := e568
                have hfd := e568
                have hw : pw D A s.heap H locs [wdP cs h r g tf ta pf na ma wa cf ca ef ea xf xa] := hw
                have lv564 := Int32.le_toInt v564
                have uv564 := Int32.toInt_lt v564
                have hps := nm_pos (hnj (by first | with_reducible rfl | with_reducible assumption | omega)) (by first | with_reducible rfl | with_reducible assumption | omega) hfd ez562 (by first | with_reducible rfl | with_reducible assumption | omega)
                refine px_iald S hT hw 0 24 (n := 1100) (f := (ca 35)) rfl gp_35 (x := v564) (vp_in_iff.mpr (by constructor <;> omega)) d_Mpg_checkPlace_80 ?_
                refine lv_topi (fun z569 ez569 => ?_)
                have lz569 := Int32.le_toInt z569
                have uz569 := Int32.toInt_lt z569
                refine lv_iconst (v := 1) S.x S.b d_Mpg_checkPlace_81 (by decide) ?_
                refine lv_icmp_ne (tgt := 89) S.x S.b d_Mpg_checkPlace_82 (by decide) (fun c570 => ?_) (fun c570 => ?_)
                · have nc570 : ¬ z569.toInt = (1 : Int) := mt (i_eq (x := z569) (y := 1)).mpr c570
                  refine lv_iconst (v := 0) S.x S.b d_Mpg_checkPlace_89 (by decide) ?_
                  refine lv_istore_n (lv' := [(3, .int 0), (0, .ref h), (1, .int p0), (2, .int p1)]) S.x S.b d_Mpg_checkPlace_90 rfl hl (by decide) rfl (fun ls hl => ?_)
                  refine lv_iload_n S.x S.b d_Mpg_checkPlace_91 rfl (lv_at hl 0 rfl) ?_
                  refine lv_if_ne (tgt := 106) S.x S.b d_Mpg_checkPlace_92 (by decide) (fun c571 => ?_) (fun c571 => ?_)
                  · exact absurd c571 (by decide)
                  ·
                    refine lv_aload_n S.x S.b d_Mpg_checkPlace_95 rfl (lv_at hl 1 rfl) ?_
                    refine lv_bipush (v := 6) S.x S.b d_Mpg_checkPlace_96 (by decide) ?_
                    refine lv_aload_n S.x S.b d_Mpg_checkPlace_98 rfl (lv_at hl 1 rfl) ?_
                    refine lv_iload_n S.x S.b d_Mpg_checkPlace_99 rfl (lv_at hl 2 rfl) ?_
                    refine px_calli (pr := []) (px_runV (As := [.int p0]) (rest := [.int 6, .ref h]) S (c_mp_first l D cs h r g tf ta pf na ma wa cf ca ef ea xf xa p0  (show 0 ≤ p0.toInt from by first | exact hrg.2.2 | omega) (show p0.toInt < (pf 13).toInt from by first | exact oz_7319c2f99d g1 hrg.2.1 | omega) (show (pf 13).toInt ≤ 2100 from by first | exact g2 | omega) htk (FsI.le (N' := (pf 13).toInt) hfs (by first | with_reducible rfl | with_reducible assumption | omega)) _) hT (pr := []) (pcs := [wdP cs h r g tf ta pf na ma wa cf ca ef ea xf xa]) hw px_X.tt (px_recv hT hw 0 0 rfl rfl rfl) m13_9 m13_6 m13_8 ms_12_15 m1_21 q_Mpg_first ⟨Nat.le_of_ble_eq_true rfl, Nat.le_of_ble_eq_true rfl⟩ hl.1 rfl (Nat.le_of_ble_eq_true rfl) d_Mpg_checkPlace_100 ⟨Nat.le_of_ble_eq_true rfl, Nat.le_of_ble_eq_true rfl⟩) hw hA (fun v573 p572 H locs hp572 hw => ?_)
                    obtain ⟨rfl, e574, e575⟩ := hp572
                    have e574 : 0 ≤ v573.toInt := e574
                    have e575 : v573.toInt < (tf 6).toInt := e575
                    have hw : pw D A s.heap H locs [wdP cs h r g tf ta pf na ma wa cf ca ef ea xf xa] := hw
                    have lv573 := Int32.le_toInt v573
                    have uv573 := Int32.toInt_lt v573
                    refine px_callv (pr := []) (px_runV (As := [.int 6, .int v573]) (rest := []) S (c_mp_bad l D cs h r g tf ta pf na ma wa ca ef ea xf xa cf 6 v573  (show 1 ≤ (6 : Int) from by first | decide | omega) (show 0 ≤ v573.toInt from by first | exact e574 | omega) (show v573.toInt < (tf 6).toInt from by first | exact e575 | omega) htk hwr _) hT (pr := []) (pcs := [wdP cs h r g tf ta pf na ma wa cf ca ef ea xf xa]) hw px_X.tt (px_recv hT hw 0 0 rfl rfl rfl) m12_173 m12_170 m12_172 ms_11_12 m1_21 q_Mpg_bad ⟨Nat.le_of_ble_eq_true rfl, Nat.le_of_ble_eq_true rfl⟩ hl.1 rfl (Nat.le_of_ble_eq_true rfl) d_Mpg_checkPlace_103 ⟨Nat.le_of_ble_eq_true rfl, Nat.le_of_ble_eq_true rfl⟩) hw hA (fun p578 H locs hp578 hw => ?_)
                    obtain ⟨cf577, rfl, e580, e581, e582, e583, e584, e585, e586, e587, e588, e589, e590, e591, e592, e593, e594, e595, e596, e597, e598⟩ := hp578
                    have e580 : KpE cf cf577 := e580
                    have hke := (hke).tr e580
                    have hkz_e580 := e580.2
                    have e581 : WrV cf577 (tf 6).toInt := e581
                    have hwr := e581
                    have hw0_e581 := hwr.1
                    have e582 : 1 ≤ (cf577 30).toInt := e582
                    have e583 : (cf577 33).toInt = (cf 33).toInt := e583
                    have e584 : (cf577 38).toInt = (cf 38).toInt := e584
                    have e585 : (cf577 48).toInt = (cf 48).toInt := e585
                    have e586 : (cf577 46).toInt = (cf 46).toInt := e586
                    have e587 : (cf577 47).toInt = (cf 47).toInt := e587
                    have e588 : (cf577 57).toInt = (cf 57).toInt := e588
                    have e589 : (cf577 37).toInt = (cf 37).toInt := e589
                    have e590 : (cf577 42).toInt = (cf 42).toInt := e590
                    have e591 : (cf577 43).toInt = (cf 43).toInt := e591
                    have e592 : (cf577 44).toInt = (cf 44).toInt := e592
                    have e593 : (cf577 45).toInt = (cf 45).toInt := e593
                    have e594 : (cf577 54).toInt = (cf 54).toInt := e594
                    have e595 : (cf577 55).toInt = (cf 55).toInt := e595
                    have e596 : (cf577 58).toInt = (cf 58).toInt := e596
                    have e597 : (cf577 59).toInt = (cf 59).toInt := e597
                    have e598 : (cf577 41).toInt = (cf 41).toInt := e598
                    have hw : pw D A s.heap H locs [wdP cs h r g tf ta pf na ma wa cf577 ca ef ea xf xa] := hw
                    exact px_vret S hr hlk hAe hw (Nat.le_of_ble_eq_true rfl) (Nat.le_of_ble_eq_true rfl) (⟨cf577, rfl, (show KpE cf cf577 from hke), (show WrV cf577 (tf 6).toInt from hwr), (show (cf577 33).toInt = (cf 33).toInt from by first | exact e583 | omega), (show (cf577 38).toInt = (cf 38).toInt from by first | exact e584 | omega), (show (cf577 48).toInt = (cf 48).toInt from by first | exact e585 | omega), (show (cf577 46).toInt = (cf 46).toInt from by first | exact e586 | omega), (show (cf577 47).toInt = (cf 47).toInt from by first | exact e587 | omega), (show (cf577 57).toInt = (cf 57).toInt from by first | exact e588 | omega), (show ZPl cf577 na ma p0 p1.toInt from (zr_no (by first | with_reducible rfl | with_reducible assumption | omega)))⟩) d_Mpg_checkPlace_106
                · have nc570 : z569.toInt = (1 : Int) := (i_eq (x := z569) (y := 1)).mp c570
                  refine lv_iconst (v := 1) S.x S.b d_Mpg_checkPlace_85 (by decide) ?_
                  refine lv_goto (tgt := 90) S.x S.b d_Mpg_checkPlace_86 (by decide) ?_
                  refine lv_istore_n (lv' := [(3, .int 1), (0, .ref h), (1, .int p0), (2, .int p1)]) S.x S.b d_Mpg_checkPlace_90 rfl hl (by decide) rfl (fun ls hl => ?_)
                  refine lv_iload_n S.x S.b d_Mpg_checkPlace_91 rfl (lv_at hl 0 rfl) ?_
                  refine lv_if_ne (tgt := 106) S.x S.b d_Mpg_checkPlace_92 (by decide) (fun c599 => ?_) (fun c599 => ?_)
                  ·
                    exact px_vret S hr hlk hAe hw (Nat.le_of_ble_eq_true rfl) (Nat.le_of_ble_eq_true rfl) (⟨cf, rfl, (show KpE cf cf from hke), (show WrV cf (tf 6).toInt from hwr), (show (cf 33).toInt = (cf 33).toInt from rfl), (show (cf 38).toInt = (cf 38).toInt from rfl), (show (cf 48).toInt = (cf 48).toInt from rfl), (show (cf 46).toInt = (cf 46).toInt from rfl), (show (cf 47).toInt = (cf 47).toInt from rfl), (show (cf 57).toInt = (cf 57).toInt from rfl), (show ZPl cf na ma p0 p1.toInt from (fun _ => ⟨⟨by first | with_reducible rfl | with_reducible assumption | omega, by first | with_reducible rfl | with_reducible assumption | omega⟩, (by first | exact Or.inl (by first | with_reducible rfl | with_reducible assumption | omega) | exact Or.inr ⟨by first | with_reducible rfl | with_reducible assumption | omega, Or.inl (by first | with_reducible rfl | with_reducible assumption | omega)⟩ | exact Or.inr ⟨by first | with_reducible rfl | with_reducible assumption | omega, Or.inr ⟨by first | with_reducible rfl | with_reducible assumption | omega, nm_pl (hnj (by first | with_reducible rfl | with_reducible assumption | omega)) (by first | with_reducible rfl | with_reducible assumption | omega) hfd ez562 (by first | with_reducible rfl | with_reducible assumption | omega) hks (by first | with_reducible rfl | with_reducible assumption | omega) ez569 (by first | with_reducible rfl | with_reducible assumption | omega)⟩⟩)⟩))⟩) d_Mpg_checkPlace_106
                  · exact absurd c599 (by decide)
    · have nc314 : p1.toInt = (3 : Int) := (i_eq (x := p1) (y := 3)).mp c314
      refine lv_aload_n S.x S.b d_Mpg_checkPlace_10 rfl (lv_at hl 0 rfl) ?_
      refine lv_iconst (v := 3) S.x S.b d_Mpg_checkPlace_11 (by decide) ?_
      refine lv_aload_n S.x S.b d_Mpg_checkPlace_12 rfl (lv_at hl 0 rfl) ?_
      refine lv_iload_n S.x S.b d_Mpg_checkPlace_13 rfl (lv_at hl 1 rfl) ?_
      refine px_calli (pr := []) (px_runV (As := [.int p0]) (rest := [.int 3, .ref h]) S (c_mp_first l D cs h r g tf ta pf na ma wa cf ca ef ea xf xa p0  (show 0 ≤ p0.toInt from by first | exact hrg.2.2 | omega) (show p0.toInt < (pf 13).toInt from by first | exact oz_7319c2f99d g1 hrg.2.1 | omega) (show (pf 13).toInt ≤ 2100 from by first | exact g2 | omega) htk (FsI.le (N' := (pf 13).toInt) hfs (by first | with_reducible rfl | with_reducible assumption | omega)) _) hT (pr := []) (pcs := [wdP cs h r g tf ta pf na ma wa cf ca ef ea xf xa]) hw px_X.tt (px_recv hT hw 0 0 rfl rfl rfl) m13_9 m13_6 m13_8 ms_12_15 m1_21 q_Mpg_first ⟨Nat.le_of_ble_eq_true rfl, Nat.le_of_ble_eq_true rfl⟩ hl.1 rfl (Nat.le_of_ble_eq_true rfl) d_Mpg_checkPlace_14 ⟨Nat.le_of_ble_eq_true rfl, Nat.le_of_ble_eq_true rfl⟩) hw hA (fun v601 p600 H locs hp600 hw => ?_)
      obtain ⟨rfl, e602, e603⟩ := hp600
      have e602 : 0 ≤ v601.toInt := e602
      have e603 : v601.toInt < (tf 6).toInt := e603
      have hw : pw D A s.heap H locs [wdP cs h r g tf ta pf na ma wa cf ca ef ea xf xa] := hw
      have lv601 := Int32.le_toInt v601
      have uv601 := Int32.toInt_lt v601
      refine px_callv (pr := []) (px_runV (As := [.int 3, .int v601]) (rest := []) S (c_mp_bad l D cs h r g tf ta pf na ma wa ca ef ea xf xa cf 3 v601  (show 1 ≤ (3 : Int) from by first | decide | omega) (show 0 ≤ v601.toInt from by first | exact e602 | omega) (show v601.toInt < (tf 6).toInt from by first | exact e603 | omega) htk hwr _) hT (pr := []) (pcs := [wdP cs h r g tf ta pf na ma wa cf ca ef ea xf xa]) hw px_X.tt (px_recv hT hw 0 0 rfl rfl rfl) m12_173 m12_170 m12_172 ms_11_12 m1_21 q_Mpg_bad ⟨Nat.le_of_ble_eq_true rfl, Nat.le_of_ble_eq_true rfl⟩ hl.1 rfl (Nat.le_of_ble_eq_true rfl) d_Mpg_checkPlace_17 ⟨Nat.le_of_ble_eq_true rfl, Nat.le_of_ble_eq_true rfl⟩) hw hA (fun p606 H locs hp606 hw => ?_)
      obtain ⟨cf605, rfl, e608, e609, e610, e611, e612, e613, e614, e615, e616, e617, e618, e619, e620, e621, e622, e623, e624, e625, e626⟩ := hp606
      have e608 : KpE cf cf605 := e608
      have hke := (hke).tr e608
      have hkz_e608 := e608.2
      have e609 : WrV cf605 (tf 6).toInt := e609
      have hwr := e609
      have hw0_e609 := hwr.1
      have e610 : 1 ≤ (cf605 30).toInt := e610
      have e611 : (cf605 33).toInt = (cf 33).toInt := e611
      have e612 : (cf605 38).toInt = (cf 38).toInt := e612
      have e613 : (cf605 48).toInt = (cf 48).toInt := e613
      have e614 : (cf605 46).toInt = (cf 46).toInt := e614
      have e615 : (cf605 47).toInt = (cf 47).toInt := e615
      have e616 : (cf605 57).toInt = (cf 57).toInt := e616
      have e617 : (cf605 37).toInt = (cf 37).toInt := e617
      have e618 : (cf605 42).toInt = (cf 42).toInt := e618
      have e619 : (cf605 43).toInt = (cf 43).toInt := e619
      have e620 : (cf605 44).toInt = (cf 44).toInt := e620
      have e621 : (cf605 45).toInt = (cf 45).toInt := e621
      have e622 : (cf605 54).toInt = (cf 54).toInt := e622
      have e623 : (cf605 55).toInt = (cf 55).toInt := e623
      have e624 : (cf605 58).toInt = (cf 58).toInt := e624
      have e625 : (cf605 59).toInt = (cf 59).toInt := e625
      have e626 : (cf605 41).toInt = (cf 41).toInt := e626
      have hw : pw D A s.heap H locs [wdP cs h r g tf ta pf na ma wa cf605 ca ef ea xf xa] := hw
      refine lv_aload_n S.x S.b d_Mpg_checkPlace_20 rfl (lv_at hl 0 rfl) ?_
      refine px_get S k_Mpg hT hw 0 0 14 (v := .ref (r 14)) rfl rfl rfl (by decide) m9_238 d_Mpg_checkPlace_21 ?_
      refine lv_iload_n S.x S.b d_Mpg_checkPlace_24 rfl (lv_at hl 1 rfl) ?_
      refine px_bald S hT hw 0 10 (n := 2100) (f := (na 14)) rfl gp_14 (x := p0) (vp_in_iff.mpr (by first | exact oz_a7e05de1cd hrg.2.2 hrg.2.1 g1 g2 | (constructor <;> omega))) d_Mpg_checkPlace_25 ?_
      refine lv_topi (fun z627 ez627 => ?_)
      have lz627 := Int32.le_toInt z627
      have uz627 := Int32.toInt_lt z627
      have rz627 := EcV.kd hec_p0 ez627
      refine lv_iconst (v := 4) S.x S.b d_Mpg_checkPlace_26 (by decide) ?_
      refine lv_icmp_eq (tgt := 44) S.x S.b d_Mpg_checkPlace_27 (by decide) (fun c628 => ?_) (fun c628 => ?_)
      · have nc628 : z627.toInt = (4 : Int) := (i_eq (x := z627) (y := 4)).mp c628
        refine lv_iconst (v := 1) S.x S.b d_Mpg_checkPlace_44 (by decide) ?_
        refine lv_goto (tgt := 49) S.x S.b d_Mpg_checkPlace_45 (by decide) ?_
        refine lv_istore_n (lv' := [(3, .int 1), (0, .ref h), (1, .int p0), (2, .int p1)]) S.x S.b d_Mpg_checkPlace_49 rfl hl (by decide) rfl (fun ls hl => ?_)
        refine lv_aload_n S.x S.b d_Mpg_checkPlace_50 rfl (lv_at hl 1 rfl) ?_
        refine px_get S k_Mpg hT hw 0 0 14 (v := .ref (r 14)) rfl rfl rfl (by decide) m9_238 d_Mpg_checkPlace_51 ?_
        refine lv_iload_n S.x S.b d_Mpg_checkPlace_54 rfl (lv_at hl 2 rfl) ?_
        refine px_bald S hT hw 0 10 (n := 2100) (f := (na 14)) rfl gp_14 (x := p0) (vp_in_iff.mpr (by first | exact oz_a7e05de1cd hrg.2.2 hrg.2.1 g1 g2 | (constructor <;> omega))) d_Mpg_checkPlace_55 ?_
        refine lv_topi (fun z629 ez629 => ?_)
        have lz629 := Int32.le_toInt z629
        have uz629 := Int32.toInt_lt z629
        have rz629 := EcV.kd hec_p0 ez629
        refine lv_iconst (v := 2) S.x S.b d_Mpg_checkPlace_56 (by decide) ?_
        refine lv_icmp_ne (tgt := 91) S.x S.b d_Mpg_checkPlace_57 (by decide) (fun c630 => ?_) (fun c630 => ?_)
        · have nc630 : ¬ z629.toInt = (2 : Int) := mt (i_eq (x := z629) (y := 2)).mpr c630
          refine lv_iload_n S.x S.b d_Mpg_checkPlace_91 rfl (lv_at hl 0 rfl) ?_
          refine lv_if_ne (tgt := 106) S.x S.b d_Mpg_checkPlace_92 (by decide) (fun c631 => ?_) (fun c631 => ?_)
          ·
            exact px_vret S hr hlk hAe hw (Nat.le_of_ble_eq_true rfl) (Nat.le_of_ble_eq_true rfl) (⟨cf605, rfl, (show KpE cf cf605 from hke), (show WrV cf605 (tf 6).toInt from hwr), (show (cf605 33).toInt = (cf 33).toInt from by first | exact e611 | omega), (show (cf605 38).toInt = (cf 38).toInt from by first | exact e612 | omega), (show (cf605 48).toInt = (cf 48).toInt from by first | exact e613 | omega), (show (cf605 46).toInt = (cf 46).toInt from by first | exact e614 | omega), (show (cf605 47).toInt = (cf 47).toInt from by first | exact e615 | omega), (show (cf605 57).toInt = (cf 57).toInt from by first | exact e616 | omega), (show ZPl cf605 na ma p0 p1.toInt from (zr_no (by first | with_reducible rfl | with_reducible assumption | omega)))⟩) d_Mpg_checkPlace_106
          · exact absurd c631 (by decide)
        · have nc630 : z629.toInt = (2 : Int) := (i_eq (x := z629) (y := 2)).mp c630
          refine lv_iload_n S.x S.b d_Mpg_checkPlace_60 rfl (lv_at hl 3 rfl) ?_
          refine lv_iconst (v := 1) S.x S.b d_Mpg_checkPlace_61 (by decide) ?_
          refine lv_icmp_ne (tgt := 91) S.x S.b d_Mpg_checkPlace_62 (by decide) (fun c632 => ?_) (fun c632 => ?_)
          · have nc632 : ¬ p1.toInt = (1 : Int) := mt (i_eq (x := p1) (y := 1)).mpr c632
            refine lv_iload_n S.x S.b d_Mpg_checkPlace_91 rfl (lv_at hl 0 rfl) ?_
            refine lv_if_ne (tgt := 106) S.x S.b d_Mpg_checkPlace_92 (by decide) (fun c633 => ?_) (fun c633 => ?_)
            ·
              exact px_vret S hr hlk hAe hw (Nat.le_of_ble_eq_true rfl) (Nat.le_of_ble_eq_true rfl) (⟨cf605, rfl, (show KpE cf cf605 from hke), (show WrV cf605 (tf 6).toInt from hwr), (show (cf605 33).toInt = (cf 33).toInt from by first | exact e611 | omega), (show (cf605 38).toInt = (cf 38).toInt from by first | exact e612 | omega), (show (cf605 48).toInt = (cf 48).toInt from by first | exact e613 | omega), (show (cf605 46).toInt = (cf 46).toInt from by first | exact e614 | omega), (show (cf605 47).toInt = (cf 47).toInt from by first | exact e615 | omega), (show (cf605 57).toInt = (cf 57).toInt from by first | exact e616 | omega), (show ZPl cf605 na ma p0 p1.toInt from (zr_no (by first | with_reducible rfl | with_reducible assumption | omega)))⟩) d_Mpg_checkPlace_106
            · exact absurd c633 (by decide)
          · have nc632 : p1.toInt = (1 : Int) := (i_eq (x := p1) (y := 1)).mp c632
            refine lv_aload_n S.x S.b d_Mpg_checkPlace_65 rfl (lv_at hl 1 rfl) ?_
            refine px_get S k_Mpg hT hw 0 0 35 (v := .ref (r 35)) rfl rfl rfl (by decide) m10_24 d_Mpg_checkPlace_66 ?_
            refine lv_aload_n S.x S.b d_Mpg_checkPlace_69 rfl (lv_at hl 1 rfl) ?_
            refine lv_aload_n S.x S.b d_Mpg_checkPlace_70 rfl (lv_at hl 1 rfl) ?_
            refine px_get S k_Mpg hT hw 0 0 15 (v := .ref (r 15)) rfl rfl rfl (by decide) m9_239 d_Mpg_checkPlace_71 ?_
            refine lv_iload_n S.x S.b d_Mpg_checkPlace_74 rfl (lv_at hl 2 rfl) ?_
            refine px_iald S hT hw 0 11 (n := 2100) (f := (na 15)) rfl gp_15 (x := p0) (vp_in_iff.mpr (by first | exact oz_a7e05de1cd hrg.2.2 hrg.2.1 g1 g2 | (constructor <;> omega))) d_Mpg_checkPlace_75 ?_
            refine lv_topi (fun z634 ez634 => ?_)
            have lz634 := Int32.le_toInt z634
            have uz634 := Int32.toInt_lt z634
            have rz634 := EcV.tok hec_p0 ez634
            refine lv_iconst (v := 0) S.x S.b d_Mpg_checkPlace_76 (by decide) ?_
            refine px_calli (pr := []) (px_runV (As := [.int z634, .int 0]) (rest := [.ref (r 35)]) S (c_mp_find l D cs h r g tf ta pf na ma wa cf605 ca ef ea xf xa z634 0  (show 0 ≤ z634.toInt from by first | exact rz634.1 | omega) (show z634.toInt < (tf 6).toInt from by first | exact oz_7fe81129bf rz634.2 | omega) (show (tf 6).toInt ≤ 2049 from by first | exact g3 | omega) (show 0 ≤ (0 : Int) from by first | decide | omega) (show 0 ≤ (cf605 33).toInt from by first | exact oz_e2fef14871 e611 g4 g5 | omega) htk (KnT.eq hkt (by first | with_reducible rfl | with_reducible assumption | omega)) _) hT (pr := []) (pcs := [wdP cs h r g tf ta pf na ma wa cf605 ca ef ea xf xa]) hw px_X.tt (px_recv hT hw 0 0 rfl rfl rfl) m12_181 m12_178 m12_180 ms_11_14 m1_21 q_Mpg_find ⟨Nat.le_of_ble_eq_true rfl, Nat.le_of_ble_eq_true rfl⟩ hl.1 rfl (Nat.le_of_ble_eq_true rfl) d_Mpg_checkPlace_77 ⟨Nat.le_of_ble_eq_true rfl, Nat.le_of_ble_eq_true rfl⟩) hw hA (fun v636 p635 H locs hp635 hw => ?_)
            obtain ⟨rfl, e637, e638, e639, e640⟩ := hp635
            have e637 : -1 ≤ v636.toInt := e637
            have e638 : v636.toInt < (cf605 33).toInt := e638
            have e639 : 0 ≤ v636.toInt → (0 : Int) ≤ v636.toInt := e639
            have e640 : FndV ta ca (cf605 33).toInt z634 (0 : Int) v636.toInt := e640
            have hfd := e640
            have hw : pw D A s.heap H locs [wdP cs h r g tf ta pf na ma wa cf605 ca ef ea xf xa] := hw
            have lv636 := Int32.le_toInt v636
            have uv636 := Int32.toInt_lt v636
            have hps := nm_pos (hnj (by first | with_reducible rfl | with_reducible assumption | omega)) (by first | with_reducible rfl | with_reducible assumption | omega) hfd ez634 (by first | with_reducible rfl | with_reducible assumption | omega)
            refine px_iald S hT hw 0 24 (n := 1100) (f := (ca 35)) rfl gp_35 (x := v636) (vp_in_iff.mpr (by constructor <;> omega)) d_Mpg_checkPlace_80 ?_
            refine lv_topi (fun z641 ez641 => ?_)
            have lz641 := Int32.le_toInt z641
            have uz641 := Int32.toInt_lt z641
            refine lv_iconst (v := 1) S.x S.b d_Mpg_checkPlace_81 (by decide) ?_
            refine lv_icmp_ne (tgt := 89) S.x S.b d_Mpg_checkPlace_82 (by decide) (fun c642 => ?_) (fun c642 => ?_)
            · have nc642 : ¬ z641.toInt = (1 : Int) := mt (i_eq (x := z641) (y := 1)).mpr c642
              refine lv_iconst (v := 0) S.x S.b d_Mpg_checkPlace_89 (by decide) ?_
              refine lv_istore_n (lv' := [(3, .int 0), (0, .ref h), (1, .int p0), (2, .int p1)]) S.x S.b d_Mpg_checkPlace_90 rfl hl (by decide) rfl (fun ls hl => ?_)
              refine lv_iload_n S.x S.b d_Mpg_checkPlace_91 rfl (lv_at hl 0 rfl) ?_
              refine lv_if_ne (tgt := 106) S.x S.b d_Mpg_checkPlace_92 (by decide) (fun c643 => ?_) (fun c643 => ?_)
              · exact absurd c643 (by decide)
              ·
                refine lv_aload_n S.x S.b d_Mpg_checkPlace_95 rfl (lv_at hl 1 rfl) ?_
                refine lv_bipush (v := 6) S.x S.b d_Mpg_checkPlace_96 (by decide) ?_
                refine lv_aload_n S.x S.b d_Mpg_checkPlace_98 rfl (lv_at hl 1 rfl) ?_
                refine lv_iload_n S.x S.b d_Mpg_checkPlace_99 rfl (lv_at hl 2 rfl) ?_
                refine px_calli (pr := []) (px_runV (As := [.int p0]) (rest := [.int 6, .ref h]) S (c_mp_first l D cs h r g tf ta pf na ma wa cf605 ca ef ea xf xa p0  (show 0 ≤ p0.toInt from by first | exact hrg.2.2 | omega) (show p0.toInt < (pf 13).toInt from by first | exact oz_7319c2f99d g1 hrg.2.1 | omega) (show (pf 13).toInt ≤ 2100 from by first | exact g2 | omega) htk (FsI.le (N' := (pf 13).toInt) hfs (by first | with_reducible rfl | with_reducible assumption | omega)) _) hT (pr := []) (pcs := [wdP cs h r g tf ta pf na ma wa cf605 ca ef ea xf xa]) hw px_X.tt (px_recv hT hw 0 0 rfl rfl rfl) m13_9 m13_6 m13_8 ms_12_15 m1_21 q_Mpg_first ⟨Nat.le_of_ble_eq_true rfl, Nat.le_of_ble_eq_true rfl⟩ hl.1 rfl (Nat.le_of_ble_eq_true rfl) d_Mpg_checkPlace_100 ⟨Nat.le_of_ble_eq_true rfl, Nat.le_of_ble_eq_true rfl⟩) hw hA (fun v645 p644 H locs hp644 hw => ?_)
                obtain ⟨rfl, e646, e647⟩ := hp644
                have e646 : 0 ≤ v645.toInt := e646
                have e647 : v645.toInt < (tf 6).toInt := e647
                have hw : pw D A s.heap H locs [wdP cs h r g tf ta pf na ma wa cf605 ca ef ea xf xa] := hw
                have lv645 := Int32.le_toInt v645
                have uv645 := Int32.toInt_lt v645
                refine px_callv (pr := []) (px_runV (As := [.int 6, .int v645]) (rest := []) S (c_mp_bad l D cs h r g tf ta pf na ma wa ca ef ea xf xa cf605 6 v645  (show 1 ≤ (6 : Int) from by first | decide | omega) (show 0 ≤ v645.toInt from by first | exact e646 | omega) (show v645.toInt < (tf 6).toInt from by first | exact e647 | omega) htk hwr _) hT (pr := []) (pcs := [wdP cs h r g tf ta pf na ma wa cf605 ca ef ea xf xa]) hw px_X.tt (px_recv hT hw 0 0 rfl rfl rfl) m12_173 m12_170 m12_172 ms_11_12 m1_21 q_Mpg_bad ⟨Nat.le_of_ble_eq_true rfl, Nat.le_of_ble_eq_true rfl⟩ hl.1 rfl (Nat.le_of_ble_eq_true rfl) d_Mpg_checkPlace_103 ⟨Nat.le_of_ble_eq_true rfl, Nat.le_of_ble_eq_true rfl⟩) hw hA (fun p650 H locs hp650 hw => ?_)
                obtain ⟨cf649, rfl, e652, e653, e654, e655, e656, e657, e658, e659, e660, e661, e662, e663, e664, e665, e666, e667, e668, e669, e670⟩ := hp650
                have e652 : KpE cf605 cf649 := e652
                have hke := (hke).tr e652
                have hkz_e652 := e652.2
                have e653 : WrV cf649 (tf 6).toInt := e653
                have hwr := e653
                have hw0_e653 := hwr.1
                have e654 : 1 ≤ (cf649 30).toInt := e654
                have e655 : (cf649 33).toInt = (cf605 33).toInt := e655
                have e656 : (cf649 38).toInt = (cf605 38).toInt := e656
                have e657 : (cf649 48).toInt = (cf605 48).toInt := e657
                have e658 : (cf649 46).toInt = (cf605 46).toInt := e658
                have e659 : (cf649 47).toInt = (cf605 47).toInt := e659
                have e660 : (cf649 57).toInt = (cf605 57).toInt := e660
                have e661 : (cf649 37).toInt = (cf605 37).toInt := e661
                have e662 : (cf649 42).toInt = (cf605 42).toInt := e662
                have e663 : (cf649 43).toInt = (cf605 43).toInt := e663
                have e664 : (cf649 44).toInt = (cf605 44).toInt := e664
                have e665 : (cf649 45).toInt = (cf605 45).toInt := e665
                have e666 : (cf649 54).toInt = (cf605 54).toInt := e666
                have e667 : (cf649 55).toInt = (cf605 55).toInt := e667
                have e668 : (cf649 58).toInt = (cf605 58).toInt := e668
                have e669 : (cf649 59).toInt = (cf605 59).toInt := e669
                have e670 : (cf649 41).toInt = (cf605 41).toInt := e670
                have hw : pw D A s.heap H locs [wdP cs h r g tf ta pf na ma wa cf649 ca ef ea xf xa] := hw
                exact px_vret S hr hlk hAe hw (Nat.le_of_ble_eq_true rfl) (Nat.le_of_ble_eq_true rfl) (⟨cf649, rfl, (show KpE cf cf649 from hke), (show WrV cf649 (tf 6).toInt from hwr), (show (cf649 33).toInt = (cf 33).toInt from by first | exact oz_1687f4cc65 e611 e655 | omega), (show (cf649 38).toInt = (cf 38).toInt from by first | exact oz_1687f4cc65 e612 e656 | omega), (show (cf649 48).toInt = (cf 48).toInt from by first | exact oz_1687f4cc65 e613 e657 | omega), (show (cf649 46).toInt = (cf 46).toInt from by first | exact oz_1687f4cc65 e614 e658 | omega), (show (cf649 47).toInt = (cf 47).toInt from by first | exact oz_1687f4cc65 e615 e659 | omega), (show (cf649 57).toInt = (cf 57).toInt from by first | exact oz_1687f4cc65 e616 e660 | omega), (show ZPl cf649 na ma p0 p1.toInt from (zr_no (by first | with_reducible rfl | with_reducible assumption | omega)))⟩) d_Mpg_checkPlace_106
            · have nc642 : z641.toInt = (1 : Int) := (i_eq (x := z641) (y := 1)).mp c642
              refine lv_iconst (v := 1) S.x S.b d_Mpg_checkPlace_85 (by decide) ?_
              refine lv_goto (tgt := 90) S.x S.b d_Mpg_checkPlace_86 (by decide) ?_
              refine lv_istore_n (lv' := [(3, .int 1), (0, .ref h), (1, .int p0), (2, .int p1)]) S.x S.b d_Mpg_checkPlace_90 rfl hl (by decide) rfl (fun ls hl => ?_)
              refine lv_iload_n S.x S.b d_Mpg_checkPlace_91 rfl (lv_at hl 0 rfl) ?_
              refine lv_if_ne (tgt := 106) S.x S.b d_Mpg_checkPlace_92 (by decide) (fun c671 => ?_) (fun c671 => ?_)
              ·
                exact px_vret S hr hlk hAe hw (Nat.le_of_ble_eq_true rfl) (Nat.le_of_ble_eq_true rfl) (⟨cf605, rfl, (show KpE cf cf605 from hke), (show WrV cf605 (tf 6).toInt from hwr), (show (cf605 33).toInt = (cf 33).toInt from by first | exact e611 | omega), (show (cf605 38).toInt = (cf 38).toInt from by first | exact e612 | omega), (show (cf605 48).toInt = (cf 48).toInt from by first | exact e613 | omega), (show (cf605 46).toInt = (cf 46).toInt from by first | exact e614 | omega), (show (cf605 47).toInt = (cf 47).toInt from by first | exact e615 | omega), (show (cf605 57).toInt = (cf 57).toInt from by first | exact e616 | omega), (show ZPl cf605 na ma p0 p1.toInt from (zr_no (by first | with_reducible rfl | with_reducible assumption | omega)))⟩) d_Mpg_checkPlace_106
              · exact absurd c671 (by decide)
      · have nc628 : ¬ z627.toInt = (4 : Int) := mt (i_eq (x := z627) (y := 4)).mpr c628
        refine lv_aload_n S.x S.b d_Mpg_checkPlace_30 rfl (lv_at hl 0 rfl) ?_
        refine px_get S k_Mpg hT hw 0 0 14 (v := .ref (r 14)) rfl rfl rfl (by decide) m9_238 d_Mpg_checkPlace_31 ?_
        refine lv_iload_n S.x S.b d_Mpg_checkPlace_34 rfl (lv_at hl 1 rfl) ?_
        refine px_bald S hT hw 0 10 (n := 2100) (f := (na 14)) rfl gp_14 (x := p0) (vp_in_iff.mpr (by first | exact oz_a7e05de1cd hrg.2.2 hrg.2.1 g1 g2 | (constructor <;> omega))) d_Mpg_checkPlace_35 ?_
        refine lv_topi (fun z672 ez672 => ?_)
        have lz672 := Int32.le_toInt z672
        have uz672 := Int32.toInt_lt z672
        have rz672 := EcV.kd hec_p0 ez672
        refine lv_iconst (v := 2) S.x S.b d_Mpg_checkPlace_36 (by decide) ?_
        refine lv_icmp_ne (tgt := 48) S.x S.b d_Mpg_checkPlace_37 (by decide) (fun c673 => ?_) (fun c673 => ?_)
        · have nc673 : ¬ z672.toInt = (2 : Int) := mt (i_eq (x := z672) (y := 2)).mpr c673
          refine lv_iconst (v := 0) S.x S.b d_Mpg_checkPlace_48 (by decide) ?_
          refine lv_istore_n (lv' := [(3, .int 0), (0, .ref h), (1, .int p0), (2, .int p1)]) S.x S.b d_Mpg_checkPlace_49 rfl hl (by decide) rfl (fun ls hl => ?_)
          refine lv_aload_n S.x S.b d_Mpg_checkPlace_50 rfl (lv_at hl 1 rfl) ?_
          refine px_get S k_Mpg hT hw 0 0 14 (v := .ref (r 14)) rfl rfl rfl (by decide) m9_238 d_Mpg_checkPlace_51 ?_
          refine lv_iload_n S.x S.b d_Mpg_checkPlace_54 rfl (lv_at hl 2 rfl) ?_
          refine px_bald S hT hw 0 10 (n := 2100) (f := (na 14)) rfl gp_14 (x := p0) (vp_in_iff.mpr (by first | exact oz_a7e05de1cd hrg.2.2 hrg.2.1 g1 g2 | (constructor <;> omega))) d_Mpg_checkPlace_55 ?_
          refine lv_topi (fun z674 ez674 => ?_)
          have lz674 := Int32.le_toInt z674
          have uz674 := Int32.toInt_lt z674
          have rz674 := EcV.kd hec_p0 ez674
          refine lv_iconst (v := 2) S.x S.b d_Mpg_checkPlace_56 (by decide) ?_
          refine lv_icmp_ne (tgt := 91) S.x S.b d_Mpg_checkPlace_57 (by decide) (fun c675 => ?_) (fun c675 => ?_)
          · have nc675 : ¬ z674.toInt = (2 : Int) := mt (i_eq (x := z674) (y := 2)).mpr c675
            refine lv_iload_n S.x S.b d_Mpg_checkPlace_91 rfl (lv_at hl 0 rfl) ?_
            refine lv_if_ne (tgt := 106) S.x S.b d_Mpg_checkPlace_92 (by decide) (fun c676 => ?_) (fun c676 => ?_)
            · exact absurd c676 (by decide)
            ·
              refine lv_aload_n S.x S.b d_Mpg_checkPlace_95 rfl (lv_at hl 1 rfl) ?_
              refine lv_bipush (v := 6) S.x S.b d_Mpg_checkPlace_96 (by decide) ?_
              refine lv_aload_n S.x S.b d_Mpg_checkPlace_98 rfl (lv_at hl 1 rfl) ?_
              refine lv_iload_n S.x S.b d_Mpg_checkPlace_99 rfl (lv_at hl 2 rfl) ?_
              refine px_calli (pr := []) (px_runV (As := [.int p0]) (rest := [.int 6, .ref h]) S (c_mp_first l D cs h r g tf ta pf na ma wa cf605 ca ef ea xf xa p0  (show 0 ≤ p0.toInt from by first | exact hrg.2.2 | omega) (show p0.toInt < (pf 13).toInt from by first | exact oz_7319c2f99d g1 hrg.2.1 | omega) (show (pf 13).toInt ≤ 2100 from by first | exact g2 | omega) htk (FsI.le (N' := (pf 13).toInt) hfs (by first | with_reducible rfl | with_reducible assumption | omega)) _) hT (pr := []) (pcs := [wdP cs h r g tf ta pf na ma wa cf605 ca ef ea xf xa]) hw px_X.tt (px_recv hT hw 0 0 rfl rfl rfl) m13_9 m13_6 m13_8 ms_12_15 m1_21 q_Mpg_first ⟨Nat.le_of_ble_eq_true rfl, Nat.le_of_ble_eq_true rfl⟩ hl.1 rfl (Nat.le_of_ble_eq_true rfl) d_Mpg_checkPlace_100 ⟨Nat.le_of_ble_eq_true rfl, Nat.le_of_ble_eq_true rfl⟩) hw hA (fun v678 p677 H locs hp677 hw => ?_)
              obtain ⟨rfl, e679, e680⟩ := hp677
              have e679 : 0 ≤ v678.toInt := e679
              have e680 : v678.toInt < (tf 6).toInt := e680
              have hw : pw D A s.heap H locs [wdP cs h r g tf ta pf na ma wa cf605 ca ef ea xf xa] := hw
              have lv678 := Int32.le_toInt v678
              have uv678 := Int32.toInt_lt v678
              refine px_callv (pr := []) (px_runV (As := [.int 6, .int v678]) (rest := []) S (c_mp_bad l D cs h r g tf ta pf na ma wa ca ef ea xf xa cf605 6 v678  (show 1 ≤ (6 : Int) from by first | decide | omega) (show 0 ≤ v678.toInt from by first | exact e679 | omega) (show v678.toInt < (tf 6).toInt from by first | exact e680 | omega) htk hwr _) hT (pr := []) (pcs := [wdP cs h r g tf ta pf na ma wa cf605 ca ef ea xf xa]) hw px_X.tt (px_recv hT hw 0 0 rfl rfl rfl) m12_173 m12_170 m12_172 ms_11_12 m1_21 q_Mpg_bad ⟨Nat.le_of_ble_eq_true rfl, Nat.le_of_ble_eq_true rfl⟩ hl.1 rfl (Nat.le_of_ble_eq_true rfl) d_Mpg_checkPlace_103 ⟨Nat.le_of_ble_eq_true rfl, Nat.le_of_ble_eq_true rfl⟩) hw hA (fun p683 H locs hp683 hw => ?_)
              obtain ⟨cf682, rfl, e685, e686, e687, e688, e689, e690, e691, e692, e693, e694, e695, e696, e697, e698, e699, e700, e701, e702, e703⟩ := hp683
              have e685 : KpE cf605 cf682 := e685
              have hke := (hke).tr e685
              have hkz_e685 := e685.2
              have e686 : WrV cf682 (tf 6).toInt := e686
              have hwr := e686
              have hw0_e686 := hwr.1
              have e687 : 1 ≤ (cf682 30).toInt := e687
              have e688 : (cf682 33).toInt = (cf605 33).toInt := e688
              have e689 : (cf682 38).toInt = (cf605 38).toInt := e689
              have e690 : (cf682 48).toInt = (cf605 48).toInt := e690
              have e691 : (cf682 46).toInt = (cf605 46).toInt := e691
              have e692 : (cf682 47).toInt = (cf605 47).toInt := e692
              have e693 : (cf682 57).toInt = (cf605 57).toInt := e693
              have e694 : (cf682 37).toInt = (cf605 37).toInt := e694
              have e695 : (cf682 42).toInt = (cf605 42).toInt := e695
              have e696 : (cf682 43).toInt = (cf605 43).toInt := e696
              have e697 : (cf682 44).toInt = (cf605 44).toInt := e697
              have e698 : (cf682 45).toInt = (cf605 45).toInt := e698
              have e699 : (cf682 54).toInt = (cf605 54).toInt := e699
              have e700 : (cf682 55).toInt = (cf605 55).toInt := e700
              have e701 : (cf682 58).toInt = (cf605 58).toInt := e701
              have e702 : (cf682 59).toInt = (cf605 59).toInt := e702
              have e703 : (cf682 41).toInt = (cf605 41).toInt := e703
              have hw : pw D A s.heap H locs [wdP cs h r g tf ta pf na ma wa cf682 ca ef ea xf xa] := hw
              exact px_vret S hr hlk hAe hw (Nat.le_of_ble_eq_true rfl) (Nat.le_of_ble_eq_true rfl) (⟨cf682, rfl, (show KpE cf cf682 from hke), (show WrV cf682 (tf 6).toInt from hwr), (show (cf682 33).toInt = (cf 33).toInt from by first | exact oz_1687f4cc65 e611 e688 | omega), (show (cf682 38).toInt = (cf 38).toInt from by first | exact oz_1687f4cc65 e612 e689 | omega), (show (cf682 48).toInt = (cf 48).toInt from by first | exact oz_1687f4cc65 e613 e690 | omega), (show (cf682 46).toInt = (cf 46).toInt from by first | exact oz_1687f4cc65 e614 e691 | omega), (show (cf682 47).toInt = (cf 47).toInt from by first | exact oz_1687f4cc65 e615 e692 | omega), (show (cf682 57).toInt = (cf 57).toInt from by first | exact oz_1687f4cc65 e616 e693 | omega), (show ZPl cf682 na ma p0 p1.toInt from (zr_no (by first | with_reducible rfl | with_reducible assumption | omega)))⟩) d_Mpg_checkPlace_106
          · have nc675 : z674.toInt = (2 : Int) := (i_eq (x := z674) (y := 2)).mp c675
            refine lv_iload_n S.x S.b d_Mpg_checkPlace_60 rfl (lv_at hl 3 rfl) ?_
            refine lv_iconst (v := 1) S.x S.b d_Mpg_checkPlace_61 (by decide) ?_
            refine lv_icmp_ne (tgt := 91) S.x S.b d_Mpg_checkPlace_62 (by decide) (fun c704 => ?_) (fun c704 => ?_)
            · have nc704 : ¬ p1.toInt = (1 : Int) := mt (i_eq (x := p1) (y := 1)).mpr c704
              refine lv_iload_n S.x S.b d_Mpg_checkPlace_91 rfl (lv_at hl 0 rfl) ?_
              refine lv_if_ne (tgt := 106) S.x S.b d_Mpg_checkPlace_92 (by decide) (fun c705 => ?_) (fun c705 => ?_)
              · exact absurd c705 (by decide)
              ·
                refine lv_aload_n S.x S.b d_Mpg_checkPlace_95 rfl (lv_at hl 1 rfl) ?_
                refine lv_bipush (v := 6) S.x S.b d_Mpg_checkPlace_96 (by decide) ?_
                refine lv_aload_n S.x S.b d_Mpg_checkPlace_98 rfl (lv_at hl 1 rfl) ?_
                refine lv_iload_n S.x S.b d_Mpg_checkPlace_99 rfl (lv_at hl 2 rfl) ?_
                refine px_calli (pr := []) (px_runV (As := [.int p0]) (rest := [.int 6, .ref h]) S (c_mp_first l D cs h r g tf ta pf na ma wa cf605 ca ef ea xf xa p0  (show 0 ≤ p0.toInt from by first | exact hrg.2.2 | omega) (show p0.toInt < (pf 13).toInt from by first | exact oz_7319c2f99d g1 hrg.2.1 | omega) (show (pf 13).toInt ≤ 2100 from by first | exact g2 | omega) htk (FsI.le (N' := (pf 13).toInt) hfs (by first | with_reducible rfl | with_reducible assumption | omega)) _) hT (pr := []) (pcs := [wdP cs h r g tf ta pf na ma wa cf605 ca ef ea xf xa]) hw px_X.tt (px_recv hT hw 0 0 rfl rfl rfl) m13_9 m13_6 m13_8 ms_12_15 m1_21 q_Mpg_first ⟨Nat.le_of_ble_eq_true rfl, Nat.le_of_ble_eq_true rfl⟩ hl.1 rfl (Nat.le_of_ble_eq_true rfl) d_Mpg_checkPlace_100 ⟨Nat.le_of_ble_eq_true rfl, Nat.le_of_ble_eq_true rfl⟩) hw hA (fun v707 p706 H locs hp706 hw => ?_)
                obtain ⟨rfl, e708, e709⟩ := hp706
                have e708 : 0 ≤ v707.toInt := e708
                have e709 : v707.toInt < (tf 6).toInt := e709
                have hw : pw D A s.heap H locs [wdP cs h r g tf ta pf na ma wa cf605 ca ef ea xf xa] := hw
                have lv707 := Int32.le_toInt v707
                have uv707 := Int32.toInt_lt v707
                refine px_callv (pr := []) (px_runV (As := [.int 6, .int v707]) (rest := []) S (c_mp_bad l D cs h r g tf ta pf na ma wa ca ef ea xf xa cf605 6 v707  (show 1 ≤ (6 : Int) from by first | decide | omega) (show 0 ≤ v707.toInt from by first | exact e708 | omega) (show v707.toInt < (tf 6).toInt from by first | exact e709 | omega) htk hwr _) hT (pr := []) (pcs := [wdP cs h r g tf ta pf na ma wa cf605 ca ef ea xf xa]) hw px_X.tt (px_recv hT hw 0 0 rfl rfl rfl) m12_173 m12_170 m12_172 ms_11_12 m1_21 q_Mpg_bad ⟨Nat.le_of_ble_eq_true rfl, Nat.le_of_ble_eq_true rfl⟩ hl.1 rfl (Nat.le_of_ble_eq_true rfl) d_Mpg_checkPlace_103 ⟨Nat.le_of_ble_eq_true rfl, Nat.le_of_ble_eq_true rfl⟩) hw hA (fun p712 H locs hp712 hw => ?_)
                obtain ⟨cf711, rfl, e714, e715, e716, e717, e718, e719, e720, e721, e722, e723, e724, e725, e726, e727, e728, e729, e730, e731, e732⟩ := hp712
                have e714 : KpE cf605 cf711 := e714
                have hke := (hke).tr e714
                have hkz_e714 := e714.2
                have e715 : WrV cf711 (tf 6).toInt := e715
                have hwr := e715
                have hw0_e715 := hwr.1
                have e716 : 1 ≤ (cf711 30).toInt := e716
                have e717 : (cf711 33).toInt = (cf605 33).toInt := e717
                have e718 : (cf711 38).toInt = (cf605 38).toInt := e718
                have e719 : (cf711 48).toInt = (cf605 48).toInt := e719
                have e720 : (cf711 46).toInt = (cf605 46).toInt := e720
                have e721 : (cf711 47).toInt = (cf605 47).toInt := e721
                have e722 : (cf711 57).toInt = (cf605 57).toInt := e722
                have e723 : (cf711 37).toInt = (cf605 37).toInt := e723
                have e724 : (cf711 42).toInt = (cf605 42).toInt := e724
                have e725 : (cf711 43).toInt = (cf605 43).toInt := e725
                have e726 : (cf711 44).toInt = (cf605 44).toInt := e726
                have e727 : (cf711 45).toInt = (cf605 45).toInt := e727
                have e728 : (cf711 54).toInt = (cf605 54).toInt := e728
                have e729 : (cf711 55).toInt = (cf605 55).toInt := e729
                have e730 : (cf711 58).toInt = (cf605 58).toInt := e730
                have e731 : (cf711 59).toInt = (cf605 59).toInt := e731
                have e732 : (cf711 41).toInt = (cf605 41).toInt := e732
                have hw : pw D A s.heap H locs [wdP cs h r g tf ta pf na ma wa cf711 ca ef ea xf xa] := hw
                exact px_vret S hr hlk hAe hw (Nat.le_of_ble_eq_true rfl) (Nat.le_of_ble_eq_true rfl) (⟨cf711, rfl, (show KpE cf cf711 from hke), (show WrV cf711 (tf 6).toInt from hwr), (show (cf711 33).toInt = (cf 33).toInt from by first | exact oz_1687f4cc65 e611 e717 | omega), (show (cf711 38).toInt = (cf 38).toInt from by first | exact oz_1687f4cc65 e612 e718 | omega), (show (cf711 48).toInt = (cf 48).toInt from by first | exact oz_1687f4cc65 e613 e719 | omega), (show (cf711 46).toInt = (cf 46).toInt from by first | exact oz_1687f4cc65 e614 e720 | omega), (show (cf711 47).toInt = (cf 47).toInt from by first | exact oz_1687f4cc65 e615 e721 | omega), (show (cf711 57).toInt = (cf 57).toInt from by first | exact oz_1687f4cc65 e616 e722 | omega), (show ZPl cf711 na ma p0 p1.toInt from (zr_no (by first | with_reducible rfl | with_reducible assumption | omega)))⟩) d_Mpg_checkPlace_106
            · have nc704 : p1.toInt = (1 : Int) := (i_eq (x := p1) (y := 1)).mp c704
              refine lv_aload_n S.x S.b d_Mpg_checkPlace_65 rfl (lv_at hl 1 rfl) ?_
              refine px_get S k_Mpg hT hw 0 0 35 (v := .ref (r 35)) rfl rfl rfl (by decide) m10_24 d_Mpg_checkPlace_66 ?_
              refine lv_aload_n S.x S.b d_Mpg_checkPlace_69 rfl (lv_at hl 1 rfl) ?_
              refine lv_aload_n S.x S.b d_Mpg_checkPlace_70 rfl (lv_at hl 1 rfl) ?_
              refine px_get S k_Mpg hT hw 0 0 15 (v := .ref (r 15)) rfl rfl rfl (by decide) m9_239 d_Mpg_checkPlace_71 ?_
              refine lv_iload_n S.x S.b d_Mpg_checkPlace_74 rfl (lv_at hl 2 rfl) ?_
              refine px_iald S hT hw 0 11 (n := 2100) (f := (na 15)) rfl gp_15 (x := p0) (vp_in_iff.mpr (by first | exact oz_a7e05de1cd hrg.2.2 hrg.2.1 g1 g2 | (constructor <;> omega))) d_Mpg_checkPlace_75 ?_
              refine lv_topi (fun z733 ez733 => ?_)
              have lz733 := Int32.le_toInt z733
              have uz733 := Int32.toInt_lt z733
              have rz733 := EcV.tok hec_p0 ez733
              refine lv_iconst (v := 0) S.x S.b d_Mpg_checkPlace_76 (by decide) ?_
              refine px_calli (pr := []) (px_runV (As := [.int z733, .int 0]) (rest := [.ref (r 35)]) S (c_mp_find l D cs h r g tf ta pf na ma wa cf605 ca ef ea xf xa z733 0  (show 0 ≤ z733.toInt from by first | exact rz733.1 | omega) (show z733.toInt < (tf 6).toInt from by first | exact oz_7fe81129bf rz733.2 | omega) (show (tf 6).toInt ≤ 2049 from by first | exact g3 | omega) (show 0 ≤ (0 : Int) from by first | decide | omega) (show 0 ≤ (cf605 33).toInt from by first | exact oz_e2fef14871 e611 g4 g5 | omega) htk (KnT.eq hkt (by first | with_reducible rfl | with_reducible assumption | omega)) _) hT (pr := []) (pcs := [wdP cs h r g tf ta pf na ma wa cf605 ca ef ea xf xa]) hw px_X.tt (px_recv hT hw 0 0 rfl rfl rfl) m12_181 m12_178 m12_180 ms_11_14 m1_21 q_Mpg_find ⟨Nat.le_of_ble_eq_true rfl, Nat.le_of_ble_eq_true rfl⟩ hl.1 rfl (Nat.le_of_ble_eq_true rfl) d_Mpg_checkPlace_77 ⟨Nat.le_of_ble_eq_true rfl, Nat.le_of_ble_eq_true rfl⟩) hw hA (fun v735 p734 H locs hp734 hw => ?_)
              obtain ⟨rfl, e736, e737, e738, e739⟩ := hp734
              have e736 : -1 ≤ v735.toInt := e736
              have e737 : v735.toInt < (cf605 33).toInt := e737
              have e738 : 0 ≤ v735.toInt → (0 : Int) ≤ v735.toInt := e738
              have e739 : FndV ta ca (cf605 33).toInt z733 (0 : Int) v735.toInt := e739
              have hfd := e739
              have hw : pw D A s.heap H locs [wdP cs h r g tf ta pf na ma wa cf605 ca ef ea xf xa] := hw
              have lv735 := Int32.le_toInt v735
              have uv735 := Int32.toInt_lt v735
              have hps := nm_pos (hnj (by first | with_reducible rfl | with_reducible assumption | omega)) (by first | with_reducible rfl | with_reducible assumption | omega) hfd ez733 (by first | with_reducible rfl | with_reducible assumption | omega)
              refine px_iald S hT hw 0 24 (n := 1100) (f := (ca 35)) rfl gp_35 (x := v735) (vp_in_iff.mpr (by constructor <;> omega)) d_Mpg_checkPlace_80 ?_
              refine lv_topi (fun z740 ez740 => ?_)
              have lz740 := Int32.le_toInt z740
              have uz740 := Int32.toInt_lt z740
              refine lv_iconst (v := 1) S.x S.b d_Mpg_checkPlace_81 (by decide) ?_
              refine lv_icmp_ne (tgt := 89) S.x S.b d_Mpg_checkPlace_82 (by decide) (fun c741 => ?_) (fun c741 => ?_)
              · have nc741 : ¬ z740.toInt = (1 : Int) := mt (i_eq (x := z740) (y := 1)).mpr c741
                refine lv_iconst (v := 0) S.x S.b d_Mpg_checkPlace_89 (by decide) ?_
                refine lv_istore_n (lv' := [(3, .int 0), (0, .ref h), (1, .int p0), (2, .int p1)]) S.x S.b d_Mpg_checkPlace_90 rfl hl (by decide) rfl (fun ls hl => ?_)
                refine lv_iload_n S.x S.b d_Mpg_checkPlace_91 rfl (lv_at hl 0 rfl) ?_
                refine lv_if_ne (tgt := 106) S.x S.b d_Mpg_checkPlace_92 (by decide) (fun c742 => ?_) (fun c742 => ?_)
                · exact absurd c742 (by decide)
                ·
                  refine lv_aload_n S.x S.b d_Mpg_checkPlace_95 rfl (lv_at hl 1 rfl) ?_
                  refine lv_bipush (v := 6) S.x S.b d_Mpg_checkPlace_96 (by decide) ?_
                  refine lv_aload_n S.x S.b d_Mpg_checkPlace_98 rfl (lv_at hl 1 rfl) ?_
                  refine lv_iload_n S.x S.b d_Mpg_checkPlace_99 rfl (lv_at hl 2 rfl) ?_
                  refine px_calli (pr := []) (px_runV (As := [.int p0]) (rest := [.int 6, .ref h]) S (c_mp_first l D cs h r g tf ta pf na ma wa cf605 ca ef ea xf xa p0  (show 0 ≤ p0.toInt from by first | exact hrg.2.2 | omega) (show p0.toInt < (pf 13).toInt from by first | exact oz_7319c2f99d g1 hrg.2.1 | omega) (show (pf 13).toInt ≤ 2100 from by first | exact g2 | omega) htk (FsI.le (N' := (pf 13).toInt) hfs (by first | with_reducible rfl | with_reducible assumption | omega)) _) hT (pr := []) (pcs := [wdP cs h r g tf ta pf na ma wa cf605 ca ef ea xf xa]) hw px_X.tt (px_recv hT hw 0 0 rfl rfl rfl) m13_9 m13_6 m13_8 ms_12_15 m1_21 q_Mpg_first ⟨Nat.le_of_ble_eq_true rfl, Nat.le_of_ble_eq_true rfl⟩ hl.1 rfl (Nat.le_of_ble_eq_true rfl) d_Mpg_checkPlace_100 ⟨Nat.le_of_ble_eq_true rfl, Nat.le_of_ble_eq_true rfl⟩) hw hA (fun v744 p743 H locs hp743 hw => ?_)
                  obtain ⟨rfl, e745, e746⟩ := hp743
                  have e745 : 0 ≤ v744.toInt := e745
                  have e746 : v744.toInt < (tf 6).toInt := e746
                  have hw : pw D A s.heap H locs [wdP cs h r g tf ta pf na ma wa cf605 ca ef ea xf xa] := hw
                  have lv744 := Int32.le_toInt v744
                  have uv744 := Int32.toInt_lt v744
                  refine px_callv (pr := []) (px_runV (As := [.int 6, .int v744]) (rest := []) S (c_mp_bad l D cs h r g tf ta pf na ma wa ca ef ea xf xa cf605 6 v744  (show 1 ≤ (6 : Int) from by first | decide | omega) (show 0 ≤ v744.toInt from by first | exact e745 | omega) (show v744.toInt < (tf 6).toInt from by first | exact e746 | omega) htk hwr _) hT (pr := []) (pcs := [wdP cs h r g tf ta pf na ma wa cf605 ca ef ea xf xa]) hw px_X.tt (px_recv hT hw 0 0 rfl rfl rfl) m12_173 m12_170 m12_172 ms_11_12 m1_21 q_Mpg_bad ⟨Nat.le_of_ble_eq_true rfl, Nat.le_of_ble_eq_true rfl⟩ hl.1 rfl (Nat.le_of_ble_eq_true rfl) d_Mpg_checkPlace_103 ⟨Nat.le_of_ble_eq_true rfl, Nat.le_of_ble_eq_true rfl⟩) hw hA (fun p749 H locs hp749 hw => ?_)
                  obtain ⟨cf748, rfl, e751, e752, e753, e754, e755, e756, e757, e758, e759, e760, e761, e762, e763, e764, e765, e766, e767, e768, e769⟩ := hp749
                  have e751 : KpE cf605 cf748 := e751
                  have hke := (hke).tr e751
                  have hkz_e751 := e751.2
                  have e752 : WrV cf748 (tf 6).toInt := e752
                  have hwr := e752
                  have hw0_e752 := hwr.1
                  have e753 : 1 ≤ (cf748 30).toInt := e753
                  have e754 : (cf748 33).toInt = (cf605 33).toInt := e754
                  have e755 : (cf748 38).toInt = (cf605 38).toInt := e755
                  have e756 : (cf748 48).toInt = (cf605 48).toInt := e756
                  have e757 : (cf748 46).toInt = (cf605 46).toInt := e757
                  have e758 : (cf748 47).toInt = (cf605 47).toInt := e758
                  have e759 : (cf748 57).toInt = (cf605 57).toInt := e759
                  have e760 : (cf748 37).toInt = (cf605 37).toInt := e760
                  have e761 : (cf748 42).toInt = (cf605 42).toInt := e761
                  have e762 : (cf748 43).toInt = (cf605 43).toInt := e762
                  have e763 : (cf748 44).toInt = (cf605 44).toInt := e763
                  have e764 : (cf748 45).toInt = (cf605 45).toInt := e764
                  have e765 : (cf748 54).toInt = (cf605 54).toInt := e765
                  have e766 : (cf748 55).toInt = (cf605 55).toInt := e766
                  have e767 : (cf748 58).toInt = (cf605 58).toInt := e767
                  have e768 : (cf748 59).toInt = (cf605 59).toInt := e768
                  have e769 : (cf748 41).toInt = (cf605 41).toInt := e769
                  have hw : pw D A s.heap H locs [wdP cs h r g tf ta pf na ma wa cf748 ca ef ea xf xa] := hw
                  exact px_vret S hr hlk hAe hw (Nat.le_of_ble_eq_true rfl) (Nat.le_of_ble_eq_true rfl) (⟨cf748, rfl, (show KpE cf cf748 from hke), (show WrV cf748 (tf 6).toInt from hwr), (show (cf748 33).toInt = (cf 33).toInt from by first | exact oz_1687f4cc65 e611 e754 | omega), (show (cf748 38).toInt = (cf 38).toInt from by first | exact oz_1687f4cc65 e612 e755 | omega), (show (cf748 48).toInt = (cf 48).toInt from by first | exact oz_1687f4cc65 e613 e756 | omega), (show (cf748 46).toInt = (cf 46).toInt from by first | exact oz_1687f4cc65 e614 e757 | omega), (show (cf748 47).toInt = (cf 47).toInt from by first | exact oz_1687f4cc65 e615 e758 | omega), (show (cf748 57).toInt = (cf 57).toInt from by first | exact oz_1687f4cc65 e616 e759 | omega), (show ZPl cf748 na ma p0 p1.toInt from (zr_no (by first | with_reducible rfl | with_reducible assumption | omega)))⟩) d_Mpg_checkPlace_106
              · have nc741 : z740.toInt = (1 : Int) := (i_eq (x := z740) (y := 1)).mp c741
                refine lv_iconst (v := 1) S.x S.b d_Mpg_checkPlace_85 (by decide) ?_
                refine lv_goto (tgt := 90) S.x S.b d_Mpg_checkPlace_86 (by decide) ?_
                refine lv_istore_n (lv' := [(3, .int 1), (0, .ref h), (1, .int p0), (2, .int p1)]) S.x S.b d_Mpg_checkPlace_90 rfl hl (by decide) rfl (fun ls hl => ?_)
                refine lv_iload_n S.x S.b d_Mpg_checkPlace_91 rfl (lv_at hl 0 rfl) ?_
                refine lv_if_ne (tgt := 106) S.x S.b d_Mpg_checkPlace_92 (by decide) (fun c770 => ?_) (fun c770 => ?_)
                ·
                  exact px_vret S hr hlk hAe hw (Nat.le_of_ble_eq_true rfl) (Nat.le_of_ble_eq_true rfl) (⟨cf605, rfl, (show KpE cf cf605 from hke), (show WrV cf605 (tf 6).toInt from hwr), (show (cf605 33).toInt = (cf 33).toInt from by first | exact e611 | omega), (show (cf605 38).toInt = (cf 38).toInt from by first | exact e612 | omega), (show (cf605 48).toInt = (cf 48).toInt from by first | exact e613 | omega), (show (cf605 46).toInt = (cf 46).toInt from by first | exact e614 | omega), (show (cf605 47).toInt = (cf 47).toInt from by first | exact e615 | omega), (show (cf605 57).toInt = (cf 57).toInt from by first | exact e616 | omega), (show ZPl cf605 na ma p0 p1.toInt from (zr_no (by first | with_reducible rfl | with_reducible assumption | omega)))⟩) d_Mpg_checkPlace_106
                · exact absurd c770 (by decide)
        · have nc673 : z672.toInt = (2 : Int) := (i_eq (x := z672) (y := 2)).mp c673
          refine lv_iload_n S.x S.b d_Mpg_checkPlace_40 rfl (lv_at hl 2 rfl) ?_
          refine lv_if_ne (tgt := 48) S.x S.b d_Mpg_checkPlace_41 (by decide) (fun c771 => ?_) (fun c771 => ?_)
          · have nc771 : ¬ p1.toInt = (0 : Int) := mt (i_eq (x := p1) (y := 0)).mpr c771
            refine lv_iconst (v := 0) S.x S.b d_Mpg_checkPlace_48 (by decide) ?_
            refine lv_istore_n (lv' := [(3, .int 0), (0, .ref h), (1, .int p0), (2, .int p1)]) S.x S.b d_Mpg_checkPlace_49 rfl hl (by decide) rfl (fun ls hl => ?_)
            refine lv_aload_n S.x S.b d_Mpg_checkPlace_50 rfl (lv_at hl 1 rfl) ?_
            refine px_get S k_Mpg hT hw 0 0 14 (v := .ref (r 14)) rfl rfl rfl (by decide) m9_238 d_Mpg_checkPlace_51 ?_
            refine lv_iload_n S.x S.b d_Mpg_checkPlace_54 rfl (lv_at hl 2 rfl) ?_
            refine px_bald S hT hw 0 10 (n := 2100) (f := (na 14)) rfl gp_14 (x := p0) (vp_in_iff.mpr (by first | exact oz_a7e05de1cd hrg.2.2 hrg.2.1 g1 g2 | (constructor <;> omega))) d_Mpg_checkPlace_55 ?_
            refine lv_topi (fun z772 ez772 => ?_)
            have lz772 := Int32.le_toInt z772
            have uz772 := Int32.toInt_lt z772
            have rz772 := EcV.kd hec_p0 ez772
            refine lv_iconst (v := 2) S.x S.b d_Mpg_checkPlace_56 (by decide) ?_
            refine lv_icmp_ne (tgt := 91) S.x S.b d_Mpg_checkPlace_57 (by decide) (fun c773 => ?_) (fun c773 => ?_)
            · have nc773 : ¬ z772.toInt = (2 : Int) := mt (i_eq (x := z772) (y := 2)).mpr c773
              refine lv_iload_n S.x S.b d_Mpg_checkPlace_91 rfl (lv_at hl 0 rfl) ?_
              refine lv_if_ne (tgt := 106) S.x S.b d_Mpg_checkPlace_92 (by decide) (fun c774 => ?_) (fun c774 => ?_)
              · exact absurd c774 (by decide)
              ·
                refine lv_aload_n S.x S.b d_Mpg_checkPlace_95 rfl (lv_at hl 1 rfl) ?_
                refine lv_bipush (v := 6) S.x S.b d_Mpg_checkPlace_96 (by decide) ?_
                refine lv_aload_n S.x S.b d_Mpg_checkPlace_98 rfl (lv_at hl 1 rfl) ?_
                refine lv_iload_n S.x S.b d_Mpg_checkPlace_99 rfl (lv_at hl 2 rfl) ?_
                refine px_calli (pr := []) (px_runV (As := [.int p0]) (rest := [.int 6, .ref h]) S (c_mp_first l D cs h r g tf ta pf na ma wa cf605 ca ef ea xf xa p0  (show 0 ≤ p0.toInt from by first | exact hrg.2.2 | omega) (show p0.toInt < (pf 13).toInt from by first | exact oz_7319c2f99d g1 hrg.2.1 | omega) (show (pf 13).toInt ≤ 2100 from by first | exact g2 | omega) htk (FsI.le (N' := (pf 13).toInt) hfs (by first | with_reducible rfl | with_reducible assumption | omega)) _) hT (pr := []) (pcs := [wdP cs h r g tf ta pf na ma wa cf605 ca ef ea xf xa]) hw px_X.tt (px_recv hT hw 0 0 rfl rfl rfl) m13_9 m13_6 m13_8 ms_12_15 m1_21 q_Mpg_first ⟨Nat.le_of_ble_eq_true rfl, Nat.le_of_ble_eq_true rfl⟩ hl.1 rfl (Nat.le_of_ble_eq_true rfl) d_Mpg_checkPlace_100 ⟨Nat.le_of_ble_eq_true rfl, Nat.le_of_ble_eq_true rfl⟩) hw hA (fun v776 p775 H locs hp775 hw => ?_)
                obtain ⟨rfl, e777, e778⟩ := hp775
                have e777 : 0 ≤ v776.toInt := e777
                have e778 : v776.toInt < (tf 6).toInt := e778
                have hw : pw D A s.heap H locs [wdP cs h r g tf ta pf na ma wa cf605 ca ef ea xf xa] := hw
                have lv776 := Int32.le_toInt v776
                have uv776 := Int32.toInt_lt v776
                refine px_callv (pr := []) (px_runV (As := [.int 6, .int v776]) (rest := []) S (c_mp_bad l D cs h r g tf ta pf na ma wa ca ef ea xf xa cf605 6 v776  (show 1 ≤ (6 : Int) from by first | decide | omega) (show 0 ≤ v776.toInt from by first | exact e777 | omega) (show v776.toInt < (tf 6).toInt from by first | exact e778 | omega) htk hwr _) hT (pr := []) (pcs := [wdP cs h r g tf ta pf na ma wa cf605 ca ef ea xf xa]) hw px_X.tt (px_recv hT hw 0 0 rfl rfl rfl) m12_173 m12_170 m12_172 ms_11_12 m1_21 q_Mpg_bad ⟨Nat.le_of_ble_eq_true rfl, Nat.le_of_ble_eq_true rfl⟩ hl.1 rfl (Nat.le_of_ble_eq_true rfl) d_Mpg_checkPlace_103 ⟨Nat.le_of_ble_eq_true rfl, Nat.le_of_ble_eq_true rfl⟩) hw hA (fun p781 H locs hp781 hw => ?_)
                obtain ⟨cf780, rfl, e783, e784, e785, e786, e787, e788, e789, e790, e791, e792, e793, e794, e795, e796, e797, e798, e799, e800, e801⟩ := hp781
                have e783 : KpE cf605 cf780 := e783
                have hke := (hke).tr e783
                have hkz_e783 := e783.2
                have e784 : WrV cf780 (tf 6).toInt := e784
                have hwr := e784
                have hw0_e784 := hwr.1
                have e785 : 1 ≤ (cf780 30).toInt := e785
                have e786 : (cf780 33).toInt = (cf605 33).toInt := e786
                have e787 : (cf780 38).toInt = (cf605 38).toInt := e787
                have e788 : (cf780 48).toInt = (cf605 48).toInt := e788
                have e789 : (cf780 46).toInt = (cf605 46).toInt := e789
                have e790 : (cf780 47).toInt = (cf605 47).toInt := e790
                have e791 : (cf780 57).toInt = (cf605 57).toInt := e791
                have e792 : (cf780 37).toInt = (cf605 37).toInt := e792
                have e793 : (cf780 42).toInt = (cf605 42).toInt := e793
                have e794 : (cf780 43).toInt = (cf605 43).toInt := e794
                have e795 : (cf780 44).toInt = (cf605 44).toInt := e795
                have e796 : (cf780 45).toInt = (cf605 45).toInt := e796
                have e797 : (cf780 54).toInt = (cf605 54).toInt := e797
                have e798 : (cf780 55).toInt = (cf605 55).toInt := e798
                have e799 : (cf780 58).toInt = (cf605 58).toInt := e799
                have e800 : (cf780 59).toInt = (cf605 59).toInt := e800
                have e801 : (cf780 41).toInt = (cf605 41).toInt := e801
                have hw : pw D A s.heap H locs [wdP cs h r g tf ta pf na ma wa cf780 ca ef ea xf xa] := hw
                exact px_vret S hr hlk hAe hw (Nat.le_of_ble_eq_true rfl) (Nat.le_of_ble_eq_true rfl) (⟨cf780, rfl, (show KpE cf cf780 from hke), (show WrV cf780 (tf 6).toInt from hwr), (show (cf780 33).toInt = (cf 33).toInt from by first | exact oz_1687f4cc65 e611 e786 | omega), (show (cf780 38).toInt = (cf 38).toInt from by first | exact oz_1687f4cc65 e612 e787 | omega), (show (cf780 48).toInt = (cf 48).toInt from by first | exact oz_1687f4cc65 e613 e788 | omega), (show (cf780 46).toInt = (cf 46).toInt from by first | exact oz_1687f4cc65 e614 e789 | omega), (show (cf780 47).toInt = (cf 47).toInt from by first | exact oz_1687f4cc65 e615 e790 | omega), (show (cf780 57).toInt = (cf 57).toInt from by first | exact oz_1687f4cc65 e616 e791 | omega), (show ZPl cf780 na ma p0 p1.toInt from (zr_no (by first | with_reducible rfl | with_reducible assumption | omega)))⟩) d_Mpg_checkPlace_106
            · have nc773 : z772.toInt = (2 : Int) := (i_eq (x := z772) (y := 2)).mp c773
              refine lv_iload_n S.x S.b d_Mpg_checkPlace_60 rfl (lv_at hl 3 rfl) ?_
              refine lv_iconst (v := 1) S.x S.b d_Mpg_checkPlace_61 (by decide) ?_
              refine lv_icmp_ne (tgt := 91) S.x S.b d_Mpg_checkPlace_62 (by decide) (fun c802 => ?_) (fun c802 => ?_)
              · have nc802 : ¬ p1.toInt = (1 : Int) := mt (i_eq (x := p1) (y := 1)).mpr c802
                refine lv_iload_n S.x S.b d_Mpg_checkPlace_91 rfl (lv_at hl 0 rfl) ?_
                refine lv_if_ne (tgt := 106) S.x S.b d_Mpg_checkPlace_92 (by decide) (fun c803 => ?_) (fun c803 => ?_)
                · exact absurd c803 (by decide)
                ·
                  refine lv_aload_n S.x S.b d_Mpg_checkPlace_95 rfl (lv_at hl 1 rfl) ?_
                  refine lv_bipush (v := 6) S.x S.b d_Mpg_checkPlace_96 (by decide) ?_
                  refine lv_aload_n S.x S.b d_Mpg_checkPlace_98 rfl (lv_at hl 1 rfl) ?_
                  refine lv_iload_n S.x S.b d_Mpg_checkPlace_99 rfl (lv_at hl 2 rfl) ?_
                  refine px_calli (pr := []) (px_runV (As := [.int p0]) (rest := [.int 6, .ref h]) S (c_mp_first l D cs h r g tf ta pf na ma wa cf605 ca ef ea xf xa p0  (show 0 ≤ p0.toInt from by first | exact hrg.2.2 | omega) (show p0.toInt < (pf 13).toInt from by first | exact oz_7319c2f99d g1 hrg.2.1 | omega) (show (pf 13).toInt ≤ 2100 from by first | exact g2 | omega) htk (FsI.le (N' := (pf 13).toInt) hfs (by first | with_reducible rfl | with_reducible assumption | omega)) _) hT (pr := []) (pcs := [wdP cs h r g tf ta pf na ma wa cf605 ca ef ea xf xa]) hw px_X.tt (px_recv hT hw 0 0 rfl rfl rfl) m13_9 m13_6 m13_8 ms_12_15 m1_21 q_Mpg_first ⟨Nat.le_of_ble_eq_true rfl, Nat.le_of_ble_eq_true rfl⟩ hl.1 rfl (Nat.le_of_ble_eq_true rfl) d_Mpg_checkPlace_100 ⟨Nat.le_of_ble_eq_true rfl, Nat.le_of_ble_eq_true rfl⟩) hw hA (fun v805 p804 H locs hp804 hw => ?_)
                  obtain ⟨rfl, e806, e807⟩ := hp804
                  have e806 : 0 ≤ v805.toInt := e806
                  have e807 : v805.toInt < (tf 6).toInt := e807
                  have hw : pw D A s.heap H locs [wdP cs h r g tf ta pf na ma wa cf605 ca ef ea xf xa] := hw
                  have lv805 := Int32.le_toInt v805
                  have uv805 := Int32.toInt_lt v805
                  refine px_callv (pr := []) (px_runV (As := [.int 6, .int v805]) (rest := []) S (c_mp_bad l D cs h r g tf ta pf na ma wa ca ef ea xf xa cf605 6 v805  (show 1 ≤ (6 : Int) from by first | decide | omega) (show 0 ≤ v805.toInt from by first | exact e806 | omega) (show v805.toInt < (tf 6).toInt from by first | exact e807 | omega) htk hwr _) hT (pr := []) (pcs := [wdP cs h r g tf ta pf na ma wa cf605 ca ef ea xf xa]) hw px_X.tt (px_recv hT hw 0 0 rfl rfl rfl) m12_173 m12_170 m12_172 ms_11_12 m1_21 q_Mpg_bad ⟨Nat.le_of_ble_eq_true rfl, Nat.le_of_ble_eq_true rfl⟩ hl.1 rfl (Nat.le_of_ble_eq_true rfl) d_Mpg_checkPlace_103 ⟨Nat.le_of_ble_eq_true rfl, Nat.le_of_ble_eq_true rfl⟩) hw hA (fun p810 H locs hp810 hw => ?_)
                  obtain ⟨cf809, rfl, e812, e813, e814, e815, e816, e817, e818, e819, e820, e821, e822, e823, e824, e825, e826, e827, e828, e829, e830⟩ := hp810
                  have e812 : KpE cf605 cf809 := e812
                  have hke := (hke).tr e812
                  have hkz_e812 := e812.2
                  have e813 : WrV cf809 (tf 6).toInt := e813
                  have hwr := e813
                  have hw0_e813 := hwr.1
                  have e814 : 1 ≤ (cf809 30).toInt := e814
                  have e815 : (cf809 33).toInt = (cf605 33).toInt := e815
                  have e816 : (cf809 38).toInt = (cf605 38).toInt := e816
                  have e817 : (cf809 48).toInt = (cf605 48).toInt := e817
                  have e818 : (cf809 46).toInt = (cf605 46).toInt := e818
                  have e819 : (cf809 47).toInt = (cf605 47).toInt := e819
                  have e820 : (cf809 57).toInt = (cf605 57).toInt := e820
                  have e821 : (cf809 37).toInt = (cf605 37).toInt := e821
                  have e822 : (cf809 42).toInt = (cf605 42).toInt := e822
                  have e823 : (cf809 43).toInt = (cf605 43).toInt := e823
                  have e824 : (cf809 44).toInt = (cf605 44).toInt := e824
                  have e825 : (cf809 45).toInt = (cf605 45).toInt := e825
                  have e826 : (cf809 54).toInt = (cf605 54).toInt := e826
                  have e827 : (cf809 55).toInt = (cf605 55).toInt := e827
                  have e828 : (cf809 58).toInt = (cf605 58).toInt := e828
                  have e829 : (cf809 59).toInt = (cf605 59).toInt := e829
                  have e830 : (cf809 41).toInt = (cf605 41).toInt := e830
                  have hw : pw D A s.heap H locs [wdP cs h r g tf ta pf na ma wa cf809 ca ef ea xf xa] := hw
                  exact px_vret S hr hlk hAe hw (Nat.le_of_ble_eq_true rfl) (Nat.le_of_ble_eq_true rfl) (⟨cf809, rfl, (show KpE cf cf809 from hke), (show WrV cf809 (tf 6).toInt from hwr), (show (cf809 33).toInt = (cf 33).toInt from by first | exact oz_1687f4cc65 e611 e815 | omega), (show (cf809 38).toInt = (cf 38).toInt from by first | exact oz_1687f4cc65 e612 e816 | omega), (show (cf809 48).toInt = (cf 48).toInt from by first | exact oz_1687f4cc65 e613 e817 | omega), (show (cf809 46).toInt = (cf 46).toInt from by first | exact oz_1687f4cc65 e614 e818 | omega), (show (cf809 47).toInt = (cf 47).toInt from by first | exact oz_1687f4cc65 e615 e819 | omega), (show (cf809 57).toInt = (cf 57).toInt from by first | exact oz_1687f4cc65 e616 e820 | omega), (show ZPl cf809 na ma p0 p1.toInt from (zr_no (by first | with_reducible rfl | with_reducible assumption | omega)))⟩) d_Mpg_checkPlace_106
              · have nc802 : p1.toInt = (1 : Int) := (i_eq (x := p1) (y := 1)).mp c802
                refine lv_aload_n S.x S.b d_Mpg_checkPlace_65 rfl (lv_at hl 1 rfl) ?_
                refine px_get S k_Mpg hT hw 0 0 35 (v := .ref (r 35)) rfl rfl rfl (by decide) m10_24 d_Mpg_checkPlace_66 ?_
                refine lv_aload_n S.x S.b d_Mpg_checkPlace_69 rfl (lv_at hl 1 rfl) ?_
                refine lv_aload_n S.x S.b d_Mpg_checkPlace_70 rfl (lv_at hl 1 rfl) ?_
                refine px_get S k_Mpg hT hw 0 0 15 (v := .ref (r 15)) rfl rfl rfl (by decide) m9_239 d_Mpg_checkPlace_71 ?_
                refine lv_iload_n S.x S.b d_Mpg_checkPlace_74 rfl (lv_at hl 2 rfl) ?_
                refine px_iald S hT hw 0 11 (n := 2100) (f := (na 15)) rfl gp_15 (x := p0) (vp_in_iff.mpr (by first | exact oz_a7e05de1cd hrg.2.2 hrg.2.1 g1 g2 | (constructor <;> omega))) d_Mpg_checkPlace_75 ?_
                refine lv_topi (fun z831 ez831 => ?_)
                have lz831 := Int32.le_toInt z831
                have uz831 := Int32.toInt_lt z831
                have rz831 := EcV.tok hec_p0 ez831
                refine lv_iconst (v := 0) S.x S.b d_Mpg_checkPlace_76 (by decide) ?_
                refine px_calli (pr := []) (px_runV (As := [.int z831, .int 0]) (rest := [.ref (r 35)]) S (c_mp_find l D cs h r g tf ta pf na ma wa cf605 ca ef ea xf xa z831 0  (show 0 ≤ z831.toInt from by first | exact rz831.1 | omega) (show z831.toInt < (tf 6).toInt from by first | exact oz_7fe81129bf rz831.2 | omega) (show (tf 6).toInt ≤ 2049 from by first | exact g3 | omega) (show 0 ≤ (0 : Int) from by first | decide | omega) (show 0 ≤ (cf605 33).toInt from by first | exact oz_e2fef14871 e611 g4 g5 | omega) htk (KnT.eq hkt (by first | with_reducible rfl | with_reducible assumption | omega)) _) hT (pr := []) (pcs := [wdP cs h r g tf ta pf na ma wa cf605 ca ef ea xf xa]) hw px_X.tt (px_recv hT hw 0 0 rfl rfl rfl) m12_181 m12_178 m12_180 ms_11_14 m1_21 q_Mpg_find ⟨Nat.le_of_ble_eq_true rfl, Nat.le_of_ble_eq_true rfl⟩ hl.1 rfl (Nat.le_of_ble_eq_true rfl) d_Mpg_checkPlace_77 ⟨Nat.le_of_ble_eq_true rfl, Nat.le_of_ble_eq_true rfl⟩) hw hA (fun v833 p832 H locs hp832 hw => ?_)
                obtain ⟨rfl, e834, e835, e836, e837⟩ := hp832
                have e834 : -1 ≤ v833.toInt := e834
                have e835 : v833.toInt < (cf605 33).toInt := e835
                have e836 : 0 ≤ v833.toInt → (0 : Int) ≤ v833.toInt := e836
                have e837 : FndV ta ca (cf605 33).toInt z831 (0 : Int) v833.toInt := e837
                have hfd := e837
                have hw : pw D A s.heap H locs [wdP cs h r g tf ta pf na ma wa cf605 ca ef ea xf xa] := hw
                have lv833 := Int32.le_toInt v833
                have uv833 := Int32.toInt_lt v833
                have hps := nm_pos (hnj (by first | with_reducible rfl | with_reducible assumption | omega)) (by first | with_reducible rfl | with_reducible assumption | omega) hfd ez831 (by first | with_reducible rfl | with_reducible assumption | omega)
                refine px_iald S hT hw 0 24 (n := 1100) (f := (ca 35)) rfl gp_35 (x := v833) (vp_in_iff.mpr (by constructor <;> omega)) d_Mpg_checkPlace_80 ?_
                refine lv_topi (fun z838 ez838 => ?_)
                have lz838 := Int32.le_toInt z838
                have uz838 := Int32.toInt_lt z838
                refine lv_iconst (v := 1) S.x S.b d_Mpg_checkPlace_81 (by decide) ?_
                refine lv_icmp_ne (tgt := 89) S.x S.b d_Mpg_checkPlace_82 (by decide) (fun c839 => ?_) (fun c839 => ?_)
                · have nc839 : ¬ z838.toInt = (1 : Int) := mt (i_eq (x := z838) (y := 1)).mpr c839
                  refine lv_iconst (v := 0) S.x S.b d_Mpg_checkPlace_89 (by decide) ?_
                  refine lv_istore_n (lv' := [(3, .int 0), (0, .ref h), (1, .int p0), (2, .int p1)]) S.x S.b d_Mpg_checkPlace_90 rfl hl (by decide) rfl (fun ls hl => ?_)
                  refine lv_iload_n S.x S.b d_Mpg_checkPlace_91 rfl (lv_at hl 0 rfl) ?_
                  refine lv_if_ne (tgt := 106) S.x S.b d_Mpg_checkPlace_92 (by decide) (fun c840 => ?_) (fun c840 => ?_)
                  · exact absurd c840 (by decide)
                  ·
                    refine lv_aload_n S.x S.b d_Mpg_checkPlace_95 rfl (lv_at hl 1 rfl) ?_
                    refine lv_bipush (v := 6) S.x S.b d_Mpg_checkPlace_96 (by decide) ?_
                    refine lv_aload_n S.x S.b d_Mpg_checkPlace_98 rfl (lv_at hl 1 rfl) ?_
                    refine lv_iload_n S.x S.b d_Mpg_checkPlace_99 rfl (lv_at hl 2 rfl) ?_
                    refine px_calli (pr := []) (px_runV (As := [.int p0]) (rest := [.int 6, .ref h]) S (c_mp_first l D cs h r g tf ta pf na ma wa cf605 ca ef ea xf xa p0  (show 0 ≤ p0.toInt from by first | exact hrg.2.2 | omega) (show p0.toInt < (pf 13).toInt from by first | exact oz_7319c2f99d g1 hrg.2.1 | omega) (show (pf 13).toInt ≤ 2100 from by first | exact g2 | omega) htk (FsI.le (N' := (pf 13).toInt) hfs (by first | with_reducible rfl | with_reducible assumption | omega)) _) hT (pr := []) (pcs := [wdP cs h r g tf ta pf na ma wa cf605 ca ef ea xf xa]) hw px_X.tt (px_recv hT hw 0 0 rfl rfl rfl) m13_9 m13_6 m13_8 ms_12_15 m1_21 q_Mpg_first ⟨Nat.le_of_ble_eq_true rfl, Nat.le_of_ble_eq_true rfl⟩ hl.1 rfl (Nat.le_of_ble_eq_true rfl) d_Mpg_checkPlace_100 ⟨Nat.le_of_ble_eq_true rfl, Nat.le_of_ble_eq_true rfl⟩) hw hA (fun v842 p841 H locs hp841 hw => ?_)
                    obtain ⟨rfl, e843, e844⟩ := hp841
                    have e843 : 0 ≤ v842.toInt := e843
                    have e844 : v842.toInt < (tf 6).toInt := e844
                    have hw : pw D A s.heap H locs [wdP cs h r g tf ta pf na ma wa cf605 ca ef ea xf xa] := hw
                    have lv842 := Int32.le_toInt v842
                    have uv842 := Int32.toInt_lt v842
                    refine px_callv (pr := []) (px_runV (As := [.int 6, .int v842]) (rest := []) S (c_mp_bad l D cs h r g tf ta pf na ma wa ca ef ea xf xa cf605 6 v842  (show 1 ≤ (6 : Int) from by first | decide | omega) (show 0 ≤ v842.toInt from by first | exact e843 | omega) (show v842.toInt < (tf 6).toInt from by first | exact e844 | omega) htk hwr _) hT (pr := []) (pcs := [wdP cs h r g tf ta pf na ma wa cf605 ca ef ea xf xa]) hw px_X.tt (px_recv hT hw 0 0 rfl rfl rfl) m12_173 m12_170 m12_172 ms_11_12 m1_21 q_Mpg_bad ⟨Nat.le_of_ble_eq_true rfl, Nat.le_of_ble_eq_true rfl⟩ hl.1 rfl (Nat.le_of_ble_eq_true rfl) d_Mpg_checkPlace_103 ⟨Nat.le_of_ble_eq_true rfl, Nat.le_of_ble_eq_true rfl⟩) hw hA (fun p847 H locs hp847 hw => ?_)
                    obtain ⟨cf846, rfl, e849, e850, e851, e852, e853, e854, e855, e856, e857, e858, e859, e860, e861, e862, e863, e864, e865, e866, e867⟩ := hp847
                    have e849 : KpE cf605 cf846 := e849
                    have hke := (hke).tr e849
                    have hkz_e849 := e849.2
                    have e850 : WrV cf846 (tf 6).toInt := e850
                    have hwr := e850
                    have hw0_e850 := hwr.1
                    have e851 : 1 ≤ (cf846 30).toInt := e851
                    have e852 : (cf846 33).toInt = (cf605 33).toInt := e852
                    have e853 : (cf846 38).toInt = (cf605 38).toInt := e853
                    have e854 : (cf846 48).toInt = (cf605 48).toInt := e854
                    have e855 : (cf846 46).toInt = (cf605 46).toInt := e855
                    have e856 : (cf846 47).toInt = (cf605 47).toInt := e856
                    have e857 : (cf846 57).toInt = (cf605 57).toInt := e857
                    have e858 : (cf846 37).toInt = (cf605 37).toInt := e858
                    have e859 : (cf846 42).toInt = (cf605 42).toInt := e859
                    have e860 : (cf846 43).toInt = (cf605 43).toInt := e860
                    have e861 : (cf846 44).toInt = (cf605 44).toInt := e861
                    have e862 : (cf846 45).toInt = (cf605 45).toInt := e862
                    have e863 : (cf846 54).toInt = (cf605 54).toInt := e863
                    have e864 : (cf846 55).toInt = (cf605 55).toInt := e864
                    have e865 : (cf846 58).toInt = (cf605 58).toInt := e865
                    have e866 : (cf846 59).toInt = (cf605 59).toInt := e866
                    have e867 : (cf846 41).toInt = (cf605 41).toInt := e867
                    have hw : pw D A s.heap H locs [wdP cs h r g tf ta pf na ma wa cf846 ca ef ea xf xa] := hw
                    exact px_vret S hr hlk hAe hw (Nat.le_of_ble_eq_true rfl) (Nat.le_of_ble_eq_true rfl) (⟨cf846, rfl, (show KpE cf cf846 from hke), (show WrV cf846 (tf 6).toInt from hwr), (show (cf846 33).toInt = (cf 33).toInt from by first | exact oz_1687f4cc65 e611 e852 | omega), (show (cf846 38).toInt = (cf 38).toInt from by first | exact oz_1687f4cc65 e612 e853 | omega), (show (cf846 48).toInt = (cf 48).toInt from by first | exact oz_1687f4cc65 e613 e854 | omega), (show (cf846 46).toInt = (cf 46).toInt from by first | exact oz_1687f4cc65 e614 e855 | omega), (show (cf846 47).toInt = (cf 47).toInt from by first | exact oz_1687f4cc65 e615 e856 | omega), (show (cf846 57).toInt = (cf 57).toInt from by first | exact oz_1687f4cc65 e616 e857 | omega), (show ZPl cf846 na ma p0 p1.toInt from (zr_no (by first | with_reducible rfl | with_reducible assumption | omega)))⟩) d_Mpg_checkPlace_106
                · have nc839 : z838.toInt = (1 : Int) := (i_eq (x := z838) (y := 1)).mp c839
                  refine lv_iconst (v := 1) S.x S.b d_Mpg_checkPlace_85 (by decide) ?_
                  refine lv_goto (tgt := 90) S.x S.b d_Mpg_checkPlace_86 (by decide) ?_
                  refine lv_istore_n (lv' := [(3, .int 1), (0, .ref h), (1, .int p0), (2, .int p1)]) S.x S.b d_Mpg_checkPlace_90 rfl hl (by decide) rfl (fun ls hl => ?_)
                  refine lv_iload_n S.x S.b d_Mpg_checkPlace_91 rfl (lv_at hl 0 rfl) ?_
                  refine lv_if_ne (tgt := 106) S.x S.b d_Mpg_checkPlace_92 (by decide) (fun c868 => ?_) (fun c868 => ?_)
                  ·
                    exact px_vret S hr hlk hAe hw (Nat.le_of_ble_eq_true rfl) (Nat.le_of_ble_eq_true rfl) (⟨cf605, rfl, (show KpE cf cf605 from hke), (show WrV cf605 (tf 6).toInt from hwr), (show (cf605 33).toInt = (cf 33).toInt from by first | exact e611 | omega), (show (cf605 38).toInt = (cf 38).toInt from by first | exact e612 | omega), (show (cf605 48).toInt = (cf 48).toInt from by first | exact e613 | omega), (show (cf605 46).toInt = (cf 46).toInt from by first | exact e614 | omega), (show (cf605 47).toInt = (cf 47).toInt from by first | exact e615 | omega), (show (cf605 57).toInt = (cf 57).toInt from by first | exact e616 | omega), (show ZPl cf605 na ma p0 p1.toInt from (zr_no (by first | with_reducible rfl | with_reducible assumption | omega)))⟩) d_Mpg_checkPlace_106
                  · exact absurd c868 (by decide)
          · have nc771 : p1.toInt = (0 : Int) := (i_eq (x := p1) (y := 0)).mp c771
            refine lv_iconst (v := 1) S.x S.b d_Mpg_checkPlace_44 (by decide) ?_
            refine lv_goto (tgt := 49) S.x S.b d_Mpg_checkPlace_45 (by decide) ?_
            refine lv_istore_n (lv' := [(3, .int 1), (0, .ref h), (1, .int p0), (2, .int p1)]) S.x S.b d_Mpg_checkPlace_49 rfl hl (by decide) rfl (fun ls hl => ?_)
            refine lv_aload_n S.x S.b d_Mpg_checkPlace_50 rfl (lv_at hl 1 rfl) ?_
            refine px_get S k_Mpg hT hw 0 0 14 (v := .ref (r 14)) rfl rfl rfl (by decide) m9_238 d_Mpg_checkPlace_51 ?_
            refine lv_iload_n S.x S.b d_Mpg_checkPlace_54 rfl (lv_at hl 2 rfl) ?_
            refine px_bald S hT hw 0 10 (n := 2100) (f := (na 14)) rfl gp_14 (x := p0) (vp_in_iff.mpr (by first | exact oz_a7e05de1cd hrg.2.2 hrg.2.1 g1 g2 | (constructor <;> omega))) d_Mpg_checkPlace_55 ?_
            refine lv_topi (fun z869 ez869 => ?_)
            have lz869 := Int32.le_toInt z869
            have uz869 := Int32.toInt_lt z869
            have rz869 := EcV.kd hec_p0 ez869
            refine lv_iconst (v := 2) S.x S.b d_Mpg_checkPlace_56 (by decide) ?_
            refine lv_icmp_ne (tgt := 91) S.x S.b d_Mpg_checkPlace_57 (by decide) (fun c870 => ?_) (fun c870 => ?_)
            · have nc870 : ¬ z869.toInt = (2 : Int) := mt (i_eq (x := z869) (y := 2)).mpr c870
              refine lv_iload_n S.x S.b d_Mpg_checkPlace_91 rfl (lv_at hl 0 rfl) ?_
              refine lv_if_ne (tgt := 106) S.x S.b d_Mpg_checkPlace_92 (by decide) (fun c871 => ?_) (fun c871 => ?_)
              ·
                exact px_vret S hr hlk hAe hw (Nat.le_of_ble_eq_true rfl) (Nat.le_of_ble_eq_true rfl) (⟨cf605, rfl, (show KpE cf cf605 from hke), (show WrV cf605 (tf 6).toInt from hwr), (show (cf605 33).toInt = (cf 33).toInt from by first | exact e611 | omega), (show (cf605 38).toInt = (cf 38).toInt from by first | exact e612 | omega), (show (cf605 48).toInt = (cf 48).toInt from by first | exact e613 | omega), (show (cf605 46).toInt = (cf 46).toInt from by first | exact e614 | omega), (show (cf605 47).toInt = (cf 47).toInt from by first | exact e615 | omega), (show (cf605 57).toInt = (cf 57).toInt from by first | exact e616 | omega), (show ZPl cf605 na ma p0 p1.toInt from (zr_no (by first | with_reducible rfl | with_reducible assumption | omega)))⟩) d_Mpg_checkPlace_106
              · exact absurd c871 (by decide)
            · have nc870 : z869.toInt = (2 : Int) := (i_eq (x := z869) (y := 2)).mp c870
              refine lv_iload_n S.x S.b d_Mpg_checkPlace_60 rfl (lv_at hl 3 rfl) ?_
              refine lv_iconst (v := 1) S.x S.b d_Mpg_checkPlace_61 (by decide) ?_
              refine lv_icmp_ne (tgt := 91) S.x S.b d_Mpg_checkPlace_62 (by decide) (fun c872 => ?_) (fun c872 => ?_)
              · have nc872 : ¬ p1.toInt = (1 : Int) := mt (i_eq (x := p1) (y := 1)).mpr c872
                refine lv_iload_n S.x S.b d_Mpg_checkPlace_91 rfl (lv_at hl 0 rfl) ?_
                refine lv_if_ne (tgt := 106) S.x S.b d_Mpg_checkPlace_92 (by decide) (fun c873 => ?_) (fun c873 => ?_)
                ·
                  exact px_vret S hr hlk hAe hw (Nat.le_of_ble_eq_true rfl) (Nat.le_of_ble_eq_true rfl) (⟨cf605, rfl, (show KpE cf cf605 from hke), (show WrV cf605 (tf 6).toInt from hwr), (show (cf605 33).toInt = (cf 33).toInt from by first | exact e611 | omega), (show (cf605 38).toInt = (cf 38).toInt from by first | exact e612 | omega), (show (cf605 48).toInt = (cf 48).toInt from by first | exact e613 | omega), (show (cf605 46).toInt = (cf 46).toInt from by first | exact e614 | omega), (show (cf605 47).toInt = (cf 47).toInt from by first | exact e615 | omega), (show (cf605 57).toInt = (cf 57).toInt from by first | exact e616 | omega), (show ZPl cf605 na ma p0 p1.toInt from (zr_no (by first | with_reducible rfl | with_reducible assumption | omega)))⟩) d_Mpg_checkPlace_106
                · exact absurd c873 (by decide)
              · have nc872 : p1.toInt = (1 : Int) := (i_eq (x := p1) (y := 1)).mp c872
                refine lv_aload_n S.x S.b d_Mpg_checkPlace_65 rfl (lv_at hl 1 rfl) ?_
                refine px_get S k_Mpg hT hw 0 0 35 (v := .ref (r 35)) rfl rfl rfl (by decide) m10_24 d_Mpg_checkPlace_66 ?_
                refine lv_aload_n S.x S.b d_Mpg_checkPlace_69 rfl (lv_at hl 1 rfl) ?_
                refine lv_aload_n S.x S.b d_Mpg_checkPlace_70 rfl (lv_at hl 1 rfl) ?_
                refine px_get S k_Mpg hT hw 0 0 15 (v := .ref (r 15)) rfl rfl rfl (by decide) m9_239 d_Mpg_checkPlace_71 ?_
                refine lv_iload_n S.x S.b d_Mpg_checkPlace_74 rfl (lv_at hl 2 rfl) ?_
                refine px_iald S hT hw 0 11 (n := 2100) (f := (na 15)) rfl gp_15 (x := p0) (vp_in_iff.mpr (by first | exact oz_a7e05de1cd hrg.2.2 hrg.2.1 g1 g2 | (constructor <;> omega))) d_Mpg_checkPlace_75 ?_
                refine lv_topi (fun z874 ez874 => ?_)
                have lz874 := Int32.le_toInt z874
                have uz874 := Int32.toInt_lt z874
                have rz874 := EcV.tok hec_p0 ez874
                refine lv_iconst (v := 0) S.x S.b d_Mpg_checkPlace_76 (by decide) ?_
                refine px_calli (pr := []) (px_runV (As := [.int z874, .int 0]) (rest := [.ref (r 35)]) S (c_mp_find l D cs h r g tf ta pf na ma wa cf605 ca ef ea xf xa z874 0  (show 0 ≤ z874.toInt from by first | exact rz874.1 | omega) (show z874.toInt < (tf 6).toInt from by first | exact oz_7fe81129bf rz874.2 | omega) (show (tf 6).toInt ≤ 2049 from by first | exact g3 | omega) (show 0 ≤ (0 : Int) from by first | decide | omega) (show 0 ≤ (cf605 33).toInt from by first | exact oz_e2fef14871 e611 g4 g5 | omega) htk (KnT.eq hkt (by first | with_reducible rfl | with_reducible assumption | omega)) _) hT (pr := []) (pcs := [wdP cs h r g tf ta pf na ma wa cf605 ca ef ea xf xa]) hw px_X.tt (px_recv hT hw 0 0 rfl rfl rfl) m12_181 m12_178 m12_180 ms_11_14 m1_21 q_Mpg_find ⟨Nat.le_of_ble_eq_true rfl, Nat.le_of_ble_eq_true rfl⟩ hl.1 rfl (Nat.le_of_ble_eq_true rfl) d_Mpg_checkPlace_77 ⟨Nat.le_of_ble_eq_true rfl, Nat.le_of_ble_eq_true rfl⟩) hw hA (fun v876 p875 H locs hp875 hw => ?_)
                obtain ⟨rfl, e877, e878, e879, e880⟩ := hp875
                have e877 : -1 ≤ v876.toInt := e877
                have e878 : v876.toInt < (cf605 33).toInt := e878
                have e879 : 0 ≤ v876.toInt → (0 : Int) ≤ v876.toInt := e879
                have e880 : FndV ta ca (cf605 33).toInt z874 (0 : Int) v876.toInt := e880
                have hfd := e880
                have hw : pw D A s.heap H locs [wdP cs h r g tf ta pf na ma wa cf605 ca ef ea xf xa] := hw
                have lv876 := Int32.le_toInt v876
                have uv876 := Int32.toInt_lt v876
                have hps := nm_pos (hnj (by first | with_reducible rfl | with_reducible assumption | omega)) (by first | with_reducible rfl | with_reducible assumption | omega) hfd ez874 (by first | with_reducible rfl | with_reducible assumption | omega)
                refine px_iald S hT hw 0 24 (n := 1100) (f := (ca 35)) rfl gp_35 (x := v876) (vp_in_iff.mpr (by constructor <;> omega)) d_Mpg_checkPlace_80 ?_
                refine lv_topi (fun z881 ez881 => ?_)
                have lz881 := Int32.le_toInt z881
                have uz881 := Int32.toInt_lt z881
                refine lv_iconst (v := 1) S.x S.b d_Mpg_checkPlace_81 (by decide) ?_
                refine lv_icmp_ne (tgt := 89) S.x S.b d_Mpg_checkPlace_82 (by decide) (fun c882 => ?_) (fun c882 => ?_)
                · have nc882 : ¬ z881.toInt = (1 : Int) := mt (i_eq (x := z881) (y := 1)).mpr c882
                  refine lv_iconst (v := 0) S.x S.b d_Mpg_checkPlace_89 (by decide) ?_
                  refine lv_istore_n (lv' := [(3, .int 0), (0, .ref h), (1, .int p0), (2, .int p1)]) S.x S.b d_Mpg_checkPlace_90 rfl hl (by decide) rfl (fun ls hl => ?_)
                  refine lv_iload_n S.x S.b d_Mpg_checkPlace_91 rfl (lv_at hl 0 rfl) ?_
                  refine lv_if_ne (tgt := 106) S.x S.b d_Mpg_checkPlace_92 (by decide) (fun c883 => ?_) (fun c883 => ?_)
                  · exact absurd c883 (by decide)
                  ·
                    refine lv_aload_n S.x S.b d_Mpg_checkPlace_95 rfl (lv_at hl 1 rfl) ?_
                    refine lv_bipush (v := 6) S.x S.b d_Mpg_checkPlace_96 (by decide) ?_
                    refine lv_aload_n S.x S.b d_Mpg_checkPlace_98 rfl (lv_at hl 1 rfl) ?_
                    refine lv_iload_n S.x S.b d_Mpg_checkPlace_99 rfl (lv_at hl 2 rfl) ?_
                    refine px_calli (pr := []) (px_runV (As := [.int p0]) (rest := [.int 6, .ref h]) S (c_mp_first l D cs h r g tf ta pf na ma wa cf605 ca ef ea xf xa p0  (show 0 ≤ p0.toInt from by first | exact hrg.2.2 | omega) (show p0.toInt < (pf 13).toInt from by first | exact oz_7319c2f99d g1 hrg.2.1 | omega) (show (pf 13).toInt ≤ 2100 from by first | exact g2 | omega) htk (FsI.le (N' := (pf 13).toInt) hfs (by first | with_reducible rfl | with_reducible assumption | omega)) _) hT (pr := []) (pcs := [wdP cs h r g tf ta pf na ma wa cf605 ca ef ea xf xa]) hw px_X.tt (px_recv hT hw 0 0 rfl rfl rfl) m13_9 m13_6 m13_8 ms_12_15 m1_21 q_Mpg_first ⟨Nat.le_of_ble_eq_true rfl, Nat.le_of_ble_eq_true rfl⟩ hl.1 rfl (Nat.le_of_ble_eq_true rfl) d_Mpg_checkPlace_100 ⟨Nat.le_of_ble_eq_true rfl, Nat.le_of_ble_eq_true rfl⟩) hw hA (fun v885 p884 H locs hp884 hw => ?_)
                    obtain ⟨rfl, e886, e887⟩ := hp884
                    have e886 : 0 ≤ v885.toInt := e886
                    have e887 : v885.toInt < (tf 6).toInt := e887
                    have hw : pw D A s.heap H locs [wdP cs h r g tf ta pf na ma wa cf605 ca ef ea xf xa] := hw
                    have lv885 := Int32.le_toInt v885
                    have uv885 := Int32.toInt_lt v885
                    refine px_callv (pr := []) (px_runV (As := [.int 6, .int v885]) (rest := []) S (c_mp_bad l D cs h r g tf ta pf na ma wa ca ef ea xf xa cf605 6 v885  (show 1 ≤ (6 : Int) from by first | decide | omega) (show 0 ≤ v885.toInt from by first | exact e886 | omega) (show v885.toInt < (tf 6).toInt from by first | exact e887 | omega) htk hwr _) hT (pr := []) (pcs := [wdP cs h r g tf ta pf na ma wa cf605 ca ef ea xf xa]) hw px_X.tt (px_recv hT hw 0 0 rfl rfl rfl) m12_173 m12_170 m12_172 ms_11_12 m1_21 q_Mpg_bad ⟨Nat.le_of_ble_eq_true rfl, Nat.le_of_ble_eq_true rfl⟩ hl.1 rfl (Nat.le_of_ble_eq_true rfl) d_Mpg_checkPlace_103 ⟨Nat.le_of_ble_eq_true rfl, Nat.le_of_ble_eq_true rfl⟩) hw hA (fun p890 H locs hp890 hw => ?_)
                    obtain ⟨cf889, rfl, e892, e893, e894, e895, e896, e897, e898, e899, e900, e901, e902, e903, e904, e905, e906, e907, e908, e909, e910⟩ := hp890
                    have e892 : KpE cf605 cf889 := e892
                    have hke := (hke).tr e892
                    have hkz_e892 := e892.2
                    have e893 : WrV cf889 (tf 6).toInt := e893
                    have hwr := e893
                    have hw0_e893 := hwr.1
                    have e894 : 1 ≤ (cf889 30).toInt := e894
                    have e895 : (cf889 33).toInt = (cf605 33).toInt := e895
                    have e896 : (cf889 38).toInt = (cf605 38).toInt := e896
                    have e897 : (cf889 48).toInt = (cf605 48).toInt := e897
                    have e898 : (cf889 46).toInt = (cf605 46).toInt := e898
                    have e899 : (cf889 47).toInt = (cf605 47).toInt := e899
                    have e900 : (cf889 57).toInt = (cf605 57).toInt := e900
                    have e901 : (cf889 37).toInt = (cf605 37).toInt := e901
                    have e902 : (cf889 42).toInt = (cf605 42).toInt := e902
                    have e903 : (cf889 43).toInt = (cf605 43).toInt := e903
                    have e904 : (cf889 44).toInt = (cf605 44).toInt := e904
                    have e905 : (cf889 45).toInt = (cf605 45).toInt := e905
                    have e906 : (cf889 54).toInt = (cf605 54).toInt := e906
                    have e907 : (cf889 55).toInt = (cf605 55).toInt := e907
                    have e908 : (cf889 58).toInt = (cf605 58).toInt := e908
                    have e909 : (cf889 59).toInt = (cf605 59).toInt := e909
                    have e910 : (cf889 41).toInt = (cf605 41).toInt := e910
                    have hw : pw D A s.heap H locs [wdP cs h r g tf ta pf na ma wa cf889 ca ef ea xf xa] := hw
                    exact px_vret S hr hlk hAe hw (Nat.le_of_ble_eq_true rfl) (Nat.le_of_ble_eq_true rfl) (⟨cf889, rfl, (show KpE cf cf889 from hke), (show WrV cf889 (tf 6).toInt from hwr), (show (cf889 33).toInt = (cf 33).toInt from by first | exact oz_1687f4cc65 e611 e895 | omega), (show (cf889 38).toInt = (cf 38).toInt from by first | exact oz_1687f4cc65 e612 e896 | omega), (show (cf889 48).toInt = (cf 48).toInt from by first | exact oz_1687f4cc65 e613 e897 | omega), (show (cf889 46).toInt = (cf 46).toInt from by first | exact oz_1687f4cc65 e614 e898 | omega), (show (cf889 47).toInt = (cf 47).toInt from by first | exact oz_1687f4cc65 e615 e899 | omega), (show (cf889 57).toInt = (cf 57).toInt from by first | exact oz_1687f4cc65 e616 e900 | omega), (show ZPl cf889 na ma p0 p1.toInt from (zr_no (by first | with_reducible rfl | with_reducible assumption | omega)))⟩) d_Mpg_checkPlace_106
                · have nc882 : z881.toInt = (1 : Int) := (i_eq (x := z881) (y := 1)).mp c882
                  refine lv_iconst (v := 1) S.x S.b d_Mpg_checkPlace_85 (by decide) ?_
                  refine lv_goto (tgt := 90) S.x S.b d_Mpg_checkPlace_86 (by decide) ?_
                  refine lv_istore_n (lv' := [(3, .int 1), (0, .ref h), (1, .int p0), (2, .int p1)]) S.x S.b d_Mpg_checkPlace_90 rfl hl (by decide) rfl (fun ls hl => ?_)
                  refine lv_iload_n S.x S.b d_Mpg_checkPlace_91 rfl (lv_at hl 0 rfl) ?_
                  refine lv_if_ne (tgt := 106) S.x S.b d_Mpg_checkPlace_92 (by decide) (fun c911 => ?_) (fun c911 => ?_)
                  ·
                    exact px_vret S hr hlk hAe hw (Nat.le_of_ble_eq_true rfl) (Nat.le_of_ble_eq_true rfl) (⟨cf605, rfl, (show KpE cf cf605 from hke), (show WrV cf605 (tf 6).toInt from hwr), (show (cf605 33).toInt = (cf 33).toInt from by first | exact e611 | omega), (show (cf605 38).toInt = (cf 38).toInt from by first | exact e612 | omega), (show (cf605 48).toInt = (cf 48).toInt from by first | exact e613 | omega), (show (cf605 46).toInt = (cf 46).toInt from by first | exact e614 | omega), (show (cf605 47).toInt = (cf 47).toInt from by first | exact e615 | omega), (show (cf605 57).toInt = (cf 57).toInt from by first | exact e616 | omega), (show ZPl cf605 na ma p0 p1.toInt from (zr_no (by first | with_reducible rfl | with_reducible assumption | omega)))⟩) d_Mpg_checkPlace_106
                  · exact absurd c911 (by decide)
