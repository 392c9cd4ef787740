theorem oz_fdd92cadf4 {a0 : Int} (h0 : (0 : Int) ≤ a0) (h1 : a0 < 37000) : 0 ≤ a0 ∧ a0 < ((37000 : Nat) : Int) := by omega
theorem oz_58a00ab5ec {a0 : Int} (h0 : -1 ≤ a0) (h1 : ¬ a0 = (-1 : Int)) : 0 ≤ a0 := by omega
theorem oz_d1e68178d5 {a0 : Int} (h0 : ¬ a0 < (0 : Int)) (h1 : a0 < 37000) : 0 ≤ a0 ∧ a0 < ((37000 : Nat) : Int) := by omega
theorem m14_124 : Cond.methodLink "HomeSystemModel$Process" 145 ⟨"HomeSystemModel$Process", "stored", "(II)I"⟩ ∈ AL := AL_14 (List.mem_of_getElem? (i := 124) rfl) rfl
theorem m14_127 : Cond.code ⟨"HomeSystemModel$Process", "stored", "(II)I"⟩ prog_15_method_13_code 4 (Option.some FieldType.int) ∈ AL := AL_14 (List.mem_of_getElem? (i := 127) rfl) rfl
theorem ms_16_12 : Cond.selects "HomeSystemModel$Process" ⟨"HomeSystemModel$Process", "stored", "(II)I"⟩ ⟨"HomeSystemModel$Process", "stored", "(II)I"⟩ ∈ AL := AL_p (q := (⟨"HomeSystemModel$Process", "stored", "(II)I"⟩, 26)) (by unfold lw_privs; exact List.mem_append_right _ (List.mem_append_right _ (List.mem_append_right _ (List.mem_append_right _ (List.mem_append_right _ (List.mem_append_right _ (List.mem_append_right _ (List.mem_append_right _ (List.mem_append_right _ (List.mem_append_right _ (List.mem_append_right _ (List.mem_append_right _ (List.mem_append_right _ (List.mem_append_right _ (List.mem_append_right _ (List.mem_append_left _ (List.mem_of_getElem? (i := 12) rfl)))))))))))))))))
theorem m14_126 : Cond.instanceMethod ⟨"HomeSystemModel$Process", "stored", "(II)I"⟩ ∈ AL := AL_14 (List.mem_of_getElem? (i := 126) rfl) rfl
theorem m14_148 : Cond.methodLink "HomeSystemModel$Process" 160 ⟨"HomeSystemModel$Process", "two", "(III)V"⟩ ∈ AL := AL_14 (List.mem_of_getElem? (i := 148) rfl) rfl
theorem m14_151 : Cond.code ⟨"HomeSystemModel$Process", "two", "(III)V"⟩ prog_15_method_18_code 7 (Option.none : Option Jvm.ClassFile.FieldType) ∈ AL := AL_14 (List.mem_of_getElem? (i := 151) rfl) rfl
theorem ms_17_2 : Cond.selects "HomeSystemModel$Process" ⟨"HomeSystemModel$Process", "two", "(III)V"⟩ ⟨"HomeSystemModel$Process", "two", "(III)V"⟩ ∈ AL := AL_p (q := (⟨"HomeSystemModel$Process", "two", "(III)V"⟩, 26)) (by unfold lw_privs; exact List.mem_append_right _ (List.mem_append_right _ (List.mem_append_right _ (List.mem_append_right _ (List.mem_append_right _ (List.mem_append_right _ (List.mem_append_right _ (List.mem_append_right _ (List.mem_append_right _ (List.mem_append_right _ (List.mem_append_right _ (List.mem_append_right _ (List.mem_append_right _ (List.mem_append_right _ (List.mem_append_right _ (List.mem_append_right _ (List.mem_of_getElem? (i := 2) rfl)))))))))))))))))
theorem m14_150 : Cond.instanceMethod ⟨"HomeSystemModel$Process", "two", "(III)V"⟩ ∈ AL := AL_14 (List.mem_of_getElem? (i := 150) rfl) rfl
theorem m14_120 : Cond.methodLink "HomeSystemModel$Process" 141 ⟨"HomeSystemModel$Process", "take", "()I"⟩ ∈ AL := AL_14 (List.mem_of_getElem? (i := 120) rfl) rfl
theorem m14_123 : Cond.code ⟨"HomeSystemModel$Process", "take", "()I"⟩ prog_15_method_6_code 1 (Option.some FieldType.int) ∈ AL := AL_14 (List.mem_of_getElem? (i := 123) rfl) rfl
theorem m14_122 : Cond.selects "HomeSystemModel$Process" ⟨"HomeSystemModel$Process", "take", "()I"⟩ ⟨"HomeSystemModel$Process", "take", "()I"⟩ ∈ AL := AL_14 (List.mem_of_getElem? (i := 122) rfl) rfl
theorem m14_121 : Cond.instanceMethod ⟨"HomeSystemModel$Process", "take", "()I"⟩ ∈ AL := AL_14 (List.mem_of_getElem? (i := 121) rfl) rfl
theorem WrU.tr2 {qa q1 q2 : Nat → Nat → Int32} {n n' c c' : Int} (h : WrU qa q1 n c) (k : WrU q1 q2 n' c') (en : n' = n) (ec : c' = c ∨ c' < 0) : WrU qa q2 n c := by
  subst en
  refine ⟨fun j a b => (k.1 j a b).trans (h.1 j a b), fun i hi => (k.2.1 i hi).trans (h.2.1 i hi), fun i hi => (k.2.2 i ?_).trans (h.2.2 i hi)⟩
  rcases ec with e | e
  · rw [e]; exact hi
  · omega
abbrev b_Mpr_change : ByteArray := prog_15_method_16_code
def y_Mpr_change : MethodName := ⟨"HomeSystemModel$Process", "change", "(IIII)V"⟩
theorem d_Mpr_change_0 : decode b_Mpr_change 0 = .ok (.iload_n 2, 1) := by decide +kernel
theorem d_Mpr_change_1 : decode b_Mpr_change 1 = .ok (.ifCond .ge 4, 3) := by decide +kernel
theorem d_Mpr_change_4 : decode b_Mpr_change 4 = .ok (.return_, 1) := by decide +kernel
theorem d_Mpr_change_5 : decode b_Mpr_change 5 = .ok (.iload_n 3, 1) := by decide +kernel
theorem d_Mpr_change_6 : decode b_Mpr_change 6 = .ok (.iconst (-1), 1) := by decide +kernel
theorem d_Mpr_change_7 : decode b_Mpr_change 7 = .ok (.if_icmp .eq 32, 3) := by decide +kernel
theorem d_Mpr_change_10 : decode b_Mpr_change 10 = .ok (.aload_n 0, 1) := by decide +kernel
theorem d_Mpr_change_11 : decode b_Mpr_change 11 = .ok (.iload_n 3, 1) := by decide +kernel
theorem d_Mpr_change_12 : decode b_Mpr_change 12 = .ok (.aload_n 0, 1) := by decide +kernel
theorem d_Mpr_change_13 : decode b_Mpr_change 13 = .ok (.getfield 10, 3) := by decide +kernel
theorem d_Mpr_change_16 : decode b_Mpr_change 16 = .ok (.iload_n 2, 1) := by decide +kernel
theorem d_Mpr_change_17 : decode b_Mpr_change 17 = .ok (.iaload, 1) := by decide +kernel
theorem d_Mpr_change_18 : decode b_Mpr_change 18 = .ok (.iload 4, 2) := by decide +kernel
theorem d_Mpr_change_20 : decode b_Mpr_change 20 = .ok (.invokevirtual 160, 3) := by decide +kernel
theorem d_Mpr_change_23 : decode b_Mpr_change 23 = .ok (.aload_n 0, 1) := by decide +kernel
theorem d_Mpr_change_24 : decode b_Mpr_change 24 = .ok (.getfield 48, 3) := by decide +kernel
theorem d_Mpr_change_27 : decode b_Mpr_change 27 = .ok (.bipush (-2), 2) := by decide +kernel
theorem d_Mpr_change_29 : decode b_Mpr_change 29 = .ok (.if_icmp .eq 4, 3) := by decide +kernel
theorem d_Mpr_change_32 : decode b_Mpr_change 32 = .ok (.return_, 1) := by decide +kernel
theorem d_Mpr_change_33 : decode b_Mpr_change 33 = .ok (.aload_n 0, 1) := by decide +kernel
theorem d_Mpr_change_34 : decode b_Mpr_change 34 = .ok (.invokevirtual 141, 3) := by decide +kernel
theorem d_Mpr_change_37 : decode b_Mpr_change 37 = .ok (.istore 4, 2) := by decide +kernel
theorem d_Mpr_change_39 : decode b_Mpr_change 39 = .ok (.aload_n 0, 1) := by decide +kernel
theorem d_Mpr_change_40 : decode b_Mpr_change 40 = .ok (.getfield 10, 3) := by decide +kernel
theorem d_Mpr_change_43 : decode b_Mpr_change 43 = .ok (.iload_n 2, 1) := by decide +kernel
theorem d_Mpr_change_44 : decode b_Mpr_change 44 = .ok (.aload_n 0, 1) := by decide +kernel
theorem d_Mpr_change_45 : decode b_Mpr_change 45 = .ok (.iload_n 1, 1) := by decide +kernel
theorem d_Mpr_change_46 : decode b_Mpr_change 46 = .ok (.iload 4, 2) := by decide +kernel
theorem d_Mpr_change_48 : decode b_Mpr_change 48 = .ok (.invokevirtual 145, 3) := by decide +kernel
theorem d_Mpr_change_51 : decode b_Mpr_change 51 = .ok (.iastore, 1) := by decide +kernel
theorem d_Mpr_change_52 : decode b_Mpr_change 52 = .ok (.aload_n 0, 1) := by decide +kernel
theorem d_Mpr_change_53 : decode b_Mpr_change 53 = .ok (.aload_n 0, 1) := by decide +kernel
theorem d_Mpr_change_54 : decode b_Mpr_change 54 = .ok (.getfield 10, 3) := by decide +kernel
theorem d_Mpr_change_57 : decode b_Mpr_change 57 = .ok (.iload_n 2, 1) := by decide +kernel
theorem d_Mpr_change_58 : decode b_Mpr_change 58 = .ok (.iaload, 1) := by decide +kernel
theorem d_Mpr_change_59 : decode b_Mpr_change 59 = .ok (.invokevirtual 105, 3) := by decide +kernel
theorem d_Mpr_change_62 : decode b_Mpr_change 62 = .ok (.return_, 1) := by decide +kernel
theorem q_Mpr_change : px_y y_Mpr_change 4 := by unfold px_y; decide +kernel
set_option maxHeartbeats 4000000 in
set_option maxRecDepth 100000 in
theorem c_mr_change (l : Launch) (D : va_G) (cs : Nat → ClassId) (nf : Int) (q : Nat) (qr : Nat → Nat) (qg : Nat → Nat → Option Nat) (qf : Nat → Int32) (qa : Nat → Nat → Int32) (h : Nat) (r : Nat → Nat) (g : Nat → Nat → Option Nat) (tf : Nat → Int32) (ta : Nat → Nat → Int32) (pf : Nat → Int32) (na : Nat → Nat → Int32) (ma : Nat → Nat → Int32) (wa : Nat → Nat → Int32) (cf : Nat → Int32) (ca : Nat → Nat → Int32) (ef : Nat → Int32) (ea : Nat → Nat → Int32) (xf : Nat → Int32) (xa : Nat → Nat → Int32) (p0 p1 p2 p3 : Int32)  (g0 : 0 ≤ p0.toInt) (g1 : p0.toInt < 1100) (g2 : -1 ≤ p1.toInt) (g3 : p1.toInt < 37000) (g4 : 0 ≤ (qf 10).toInt) (g5 : (qf 10).toInt < 62000) (g6 : 0 ≤ p1.toInt → (qf 2).toInt = -2) (g7 : -1 ≤ p2.toInt) (g8 : p2.toInt ≤ 42) : MetV l y_Mpr_change b_Mpr_change 5 D cs 7 240 (0) (0) [.ref q, .int p0, .int p1, .int p2, .int p3] [wd_Mpr cs q qr (fun k => if k = 0 then (some h) else none) qf qa qg, wdP cs h r g tf ta pf na ma wa cf ca ef ea xf xa] (oX (fun A U H => (oP A g U H) ∧ (oLW A U H)) [wd_Mpr cs q qr (fun k => if k = 0 then (some h) else none) qf qa qg, wdP cs h r g tf ta pf na ma wa cf ca ef ea xf xa]) (fun ps => ∃ (qf' : Nat → Int32) (qa' : Nat → Nat → Int32), (ps = [wd_Mpr cs q qr (fun k => if k = 0 then (some h) else none) qf' qa' qg, wdP cs h r g tf ta pf na ma wa cf ca ef ea xf xa]) ∧ (ChO p1.toInt (qf' 2).toInt (qf 2).toInt (qf' 10).toInt (qf 10).toInt) ∧ ((qf' 1).toInt = (qf 1).toInt) ∧ ((qf' 4).toInt = (qf 4).toInt) ∧ ((qf' 5).toInt = (qf 5).toInt) ∧ ((qf' 6).toInt = (qf 6).toInt) ∧ ((qf' 7).toInt = (qf 7).toInt) ∧ ((qf' 11).toInt = (qf 11).toInt) ∧ ((qf' 12).toInt = (qf 12).toInt) ∧ ((qf' 13).toInt = (qf 13).toInt) ∧ ((qf' 14).toInt = (qf 14).toInt) ∧ ((qf' 21).toInt = (qf 21).toInt) ∧ ((qf' 23).toInt = (qf 23).toInt) ∧ ((qf' 24).toInt = (qf 24).toInt) ∧ (WrU qa qa' (qf 10).toInt p1.toInt)) := by
  refine px_enter (by decide) (Nat.le_of_ble_eq_true rfl) ?_
  intro p e s m below meth c A ls hAe S hr hlk hnm hA hT hX hw hl
  replace hl : lv_has ls 5 [(0, .ref q), (1, .int p0), (2, .int p1), (3, .int p2), (4, .int p3)] := hl
  have lp0 := Int32.le_toInt p0
  have up0 := Int32.toInt_lt p0
  have lp1 := Int32.le_toInt p1
  have up1 := Int32.toInt_lt p1
  have lp2 := Int32.le_toInt p2
  have up2 := Int32.toInt_lt p2
  have lp3 := Int32.le_toInt p3
  have up3 := Int32.toInt_lt p3
  have cstm2 : ((-2) : Int32).toInt = (-2) := rfl
  have cstm1 : ((-1) : Int32).toInt = (-1) := rfl
  have hX : (fun A U H => (oP A g U H) ∧ (oLW A U H)) A s s.heap := by rw [hAe]; exact hX
  obtain ⟨hP, hSh⟩ := hX
  have hZ := hP.1
  have hF0 := hP.2.1
  have hwr : WrU qa qa (qf 10).toInt p1.toInt := WrU.rf
  refine lv_iload_n S.x S.b d_Mpr_change_0 rfl (lv_at hl 2 rfl) ?_
  refine lv_if_ge (tgt := 5) S.x S.b d_Mpr_change_1 (by decide) (fun c1 => ?_) (fun c1 => ?_)
  · have nc1 : (0 : Int) ≤ p1.toInt := (i_le (x := 0) (y := p1)).mp c1
    refine lv_iload_n S.x S.b d_Mpr_change_5 rfl (lv_at hl 3 rfl) ?_
    refine lv_iconst (v := (-1)) S.x S.b d_Mpr_change_6 (by decide) ?_
    refine lv_icmp_eq (tgt := 39) S.x S.b d_Mpr_change_7 (by decide) (fun c2 => ?_) (fun c2 => ?_)
    · have nc2 : p2.toInt = (-1 : Int) := (i_eq (x := p2) (y := (-1))).mp c2
      refine lv_aload_n S.x S.b d_Mpr_change_39 rfl (lv_at hl 0 rfl) ?_
      refine px_get S k_Mpr hT hw 0 0 8 (v := .ref (qr 8)) rfl rfl rfl (by decide) m10_236 d_Mpr_change_40 ?_
      refine lv_iload_n S.x S.b d_Mpr_change_43 rfl (lv_at hl 2 rfl) ?_
      refine lv_aload_n S.x S.b d_Mpr_change_44 rfl (lv_at hl 0 rfl) ?_
      refine lv_iload_n S.x S.b d_Mpr_change_45 rfl (lv_at hl 1 rfl) ?_
      refine lv_iload S.x S.b d_Mpr_change_46 (lv_at hl 4 rfl) ?_
      refine px_calli (pr := []) (px_runV (As := [.int p0, .int p3]) (rest := [.int p1, .ref (qr 8)]) S (c_mr_stored l D cs nf q qr qg qf qa h r g tf ta pf na ma wa cf ca ef ea xf xa p0 p3  (show 0 ≤ p0.toInt from by first | exact g0 | omega) (show p0.toInt < 1100 from by first | exact g1 | omega) _) hT (pr := []) (pcs := [wd_Mpr cs q qr (fun k => if k = 0 then (some h) else none) qf qa qg, wdP cs h r g tf ta pf na ma wa cf ca ef ea xf xa]) hw (oX_call (P := (fun A U H => (oP A g U H))) (pr := []) oG_P hw hA hP) (px_recv hT hw 0 0 rfl rfl rfl) m14_127 m14_124 m14_126 ms_16_12 m1_22 q_Mpr_stored ⟨Nat.le_of_ble_eq_true rfl, Nat.le_of_ble_eq_true rfl⟩ hl.1 rfl (Nat.le_of_ble_eq_true rfl) d_Mpr_change_48 ⟨Nat.le_of_ble_eq_true rfl, Nat.le_of_ble_eq_true rfl⟩) hw hA (fun v4 p3 H locs hp3 hw => ?_)
      subst hp3
      replace hw : pw D A s.heap H locs [wd_Mpr cs q qr (fun k => if k = 0 then (some h) else none) qf qa qg, wdP cs h r g tf ta pf na ma wa cf ca ef ea xf xa] := hw
      have lv4 := Int32.le_toInt v4
      have uv4 := Int32.toInt_lt v4
      refine px_iast S hT hw 0 1 (n := 37000) (f := (qa 8)) (x := p1) (y := v4) rfl (ga_Mpr_8 _ _ _ _ _ _ _) (vp_in_iff.mpr (by constructor <;> omega)) d_Mpr_change_51 (w' := wd_Mpr cs q qr (fun k => if k = 0 then (some h) else none) qf (va_up qa 8 (upd (qa 8) p1.toNatClampNeg v4)) qg) (ps' := [wd_Mpr cs q qr (fun k => if k = 0 then (some h) else none) qf (va_up qa 8 (upd (qa 8) p1.toNatClampNeg v4)) qg, wdP cs h r g tf ta pf na ma wa cf ca ef ea xf xa]) (sa_Mpr_8 _ _ _ _ _ _ _ _) rfl (fun H locs hw => ?_)
      obtain ⟨qa5, hu_qa5⟩ : ∃ y : Nat → Nat → Int32, y = va_up qa 8 (upd (qa 8) p1.toNatClampNeg v4) := ⟨_, rfl⟩; have hw : pw D A s.heap _ _ [wd_Mpr cs q qr (fun k => if k = 0 then (some h) else none) qf qa5 qg, wdP cs h r g tf ta pf na ma wa cf ca ef ea xf xa] := (by rw [hu_qa5]; exact hw); have hwr := hwr.tr2 (NuU.c (n := (qf 10).toInt) (nuu_mk (n := p1.toInt) hu_qa5 (by omega) rfl)) (by omega) (by omega)
      refine lv_aload_n S.x S.b d_Mpr_change_52 rfl (lv_at hl 0 rfl) ?_
      refine lv_aload_n S.x S.b d_Mpr_change_53 rfl (lv_at hl 0 rfl) ?_
      refine px_get S k_Mpr hT hw 0 0 8 (v := .ref (qr 8)) rfl rfl rfl (by decide) m10_236 d_Mpr_change_54 ?_
      refine lv_iload_n S.x S.b d_Mpr_change_57 rfl (lv_at hl 2 rfl) ?_
      refine px_iald S hT hw 0 1 (n := 37000) (f := (qa5 8)) rfl (ga_Mpr_8 _ _ _ _ _ _ _) (x := p1) (vp_in_iff.mpr (by first | exact oz_fdd92cadf4 nc1 g3 | (constructor <;> omega))) d_Mpr_change_58 ?_
      refine lv_topi (fun z6 ez6 => ?_)
      have lz6 := Int32.le_toInt z6
      have uz6 := Int32.toInt_lt z6
      refine px_callv (pr := []) (px_runV (As := [.int z6]) (rest := []) S (c_mr_give l D cs nf q qr qg qf qa5 h r g tf ta pf na ma wa cf ca ef ea xf xa z6  (show 0 ≤ (qf 10).toInt from by first | exact g4 | omega) (show (qf 10).toInt < 62500 from by first | exact oz_7621ce4cd5 g5 | omega) _) hT (pr := []) (pcs := [wd_Mpr cs q qr (fun k => if k = 0 then (some h) else none) qf qa5 qg, wdP cs h r g tf ta pf na ma wa cf ca ef ea xf xa]) hw (oX_call (P := (fun A U H => (oP A g U H))) (pr := []) oG_P hw hA hP) (px_recv hT hw 0 0 rfl rfl rfl) m13_161 m13_158 m13_159 m13_160 m1_22 q_Mpr_give ⟨Nat.le_of_ble_eq_true rfl, Nat.le_of_ble_eq_true rfl⟩ hl.1 rfl (Nat.le_of_ble_eq_true rfl) d_Mpr_change_59 ⟨Nat.le_of_ble_eq_true rfl, Nat.le_of_ble_eq_true rfl⟩) hw hA (fun p11 H locs hp11 hw => ?_)
      obtain ⟨qf9, qa10, rfl, e13, e14, e15, e16, e17, e18, e19, e20, e21, e22, e23, e24, e25, e26, e27, e28⟩ := hp11
      replace e13 : (qf9 10).toInt = (qf 10).toInt + 1 := e13
      replace e14 : (qf9 1).toInt = (qf 1).toInt := e14
      replace e15 : (qf9 2).toInt = (qf 2).toInt := e15
      replace e16 : (qf9 3).toInt = (qf 3).toInt := e16
      replace e17 : (qf9 4).toInt = (qf 4).toInt := e17
      replace e18 : (qf9 5).toInt = (qf 5).toInt := e18
      replace e19 : (qf9 6).toInt = (qf 6).toInt := e19
      replace e20 : (qf9 7).toInt = (qf 7).toInt := e20
      replace e21 : (qf9 11).toInt = (qf 11).toInt := e21
      replace e22 : (qf9 12).toInt = (qf 12).toInt := e22
      replace e23 : (qf9 13).toInt = (qf 13).toInt := e23
      replace e24 : (qf9 14).toInt = (qf 14).toInt := e24
      replace e25 : (qf9 21).toInt = (qf 21).toInt := e25
      replace e26 : (qf9 23).toInt = (qf 23).toInt := e26
      replace e27 : (qf9 24).toInt = (qf 24).toInt := e27
      replace e28 : NuU qa5 qa10 9 (qf 10).toInt z6 := e28
      have hwr := hwr.tr2 (c' := p1.toInt) (NuU.w (c := p1.toInt) e28) (by omega) (by omega)
      replace hw : pw D A s.heap H locs [wd_Mpr cs q qr (fun k => if k = 0 then (some h) else none) qf9 qa10 qg, wdP cs h r g tf ta pf na ma wa cf ca ef ea xf xa] := hw
      exact px_vret S hr hlk hAe hw (Nat.le_of_ble_eq_true rfl) (Nat.le_of_ble_eq_true rfl) (⟨qf9, qa10, rfl, (show ChO p1.toInt (qf9 2).toInt (qf 2).toInt (qf9 10).toInt (qf 10).toInt from (Or.inr ⟨by omega, Or.inl ⟨by omega, by omega⟩⟩)), (show (qf9 1).toInt = (qf 1).toInt from by first | exact e14 | omega), (show (qf9 4).toInt = (qf 4).toInt from by first | exact e17 | omega), (show (qf9 5).toInt = (qf 5).toInt from by first | exact e18 | omega), (show (qf9 6).toInt = (qf 6).toInt from by first | exact e19 | omega), (show (qf9 7).toInt = (qf 7).toInt from by first | exact e20 | omega), (show (qf9 11).toInt = (qf 11).toInt from by first | exact e21 | omega), (show (qf9 12).toInt = (qf 12).toInt from by first | exact e22 | omega), (show (qf9 13).toInt = (qf 13).toInt from by first | exact e23 | omega), (show (qf9 14).toInt = (qf 14).toInt from by first | exact e24 | omega), (show (qf9 21).toInt = (qf 21).toInt from by first | exact e25 | omega), (show (qf9 23).toInt = (qf 23).toInt from by first | exact e26 | omega), (show (qf9 24).toInt = (qf 24).toInt from by first | exact e27 | omega), (show WrU qa qa10 (qf 10).toInt p1.toInt from hwr)⟩) d_Mpr_change_62
    · have nc2 : ¬ p2.toInt = (-1 : Int) := mt (i_eq (x := p2) (y := (-1))).mpr c2
      refine lv_aload_n S.x S.b d_Mpr_change_10 rfl (lv_at hl 0 rfl) ?_
      refine lv_iload_n S.x S.b d_Mpr_change_11 rfl (lv_at hl 3 rfl) ?_
      refine lv_aload_n S.x S.b d_Mpr_change_12 rfl (lv_at hl 0 rfl) ?_
      refine px_get S k_Mpr hT hw 0 0 8 (v := .ref (qr 8)) rfl rfl rfl (by decide) m10_236 d_Mpr_change_13 ?_
      refine lv_iload_n S.x S.b d_Mpr_change_16 rfl (lv_at hl 2 rfl) ?_
      refine px_iald S hT hw 0 1 (n := 37000) (f := (qa 8)) rfl (ga_Mpr_8 _ _ _ _ _ _ _) (x := p1) (vp_in_iff.mpr (by first | exact oz_fdd92cadf4 nc1 g3 | (constructor <;> omega))) d_Mpr_change_17 ?_
      refine lv_topi (fun z29 ez29 => ?_)
      have lz29 := Int32.le_toInt z29
      have uz29 := Int32.toInt_lt z29
      refine lv_iload S.x S.b d_Mpr_change_18 (lv_at hl 4 rfl) ?_
      refine px_callv (pr := []) (px_runV (As := [.int p2, .int z29, .int p3]) (rest := []) S (c_mr_two l D cs nf q qr qg qf qa h r g tf ta pf na ma wa cf ca ef ea xf xa p2 z29 p3  (show 0 ≤ p2.toInt from by first | exact oz_58a00ab5ec g7 nc2 | omega) (show p2.toInt ≤ 42 from by first | exact g8 | omega) (show 0 ≤ (qf 10).toInt from by first | exact g4 | omega) (show (qf 10).toInt < 62000 from by first | exact g5 | omega) _) hT (pr := []) (pcs := [wd_Mpr cs q qr (fun k => if k = 0 then (some h) else none) qf qa qg, wdP cs h r g tf ta pf na ma wa cf ca ef ea xf xa]) hw (oX_call (P := (fun A U H => (oP A g U H) ∧ (oLW A U H))) (pr := []) (oG_and oG_P oG_LW) hw hA ⟨hP, hSh⟩) (px_recv hT hw 0 0 rfl rfl rfl) m14_151 m14_148 m14_150 ms_17_2 m1_22 q_Mpr_two ⟨Nat.le_of_ble_eq_true rfl, Nat.le_of_ble_eq_true rfl⟩ hl.1 rfl (Nat.le_of_ble_eq_true rfl) d_Mpr_change_20 ⟨Nat.le_of_ble_eq_true rfl, Nat.le_of_ble_eq_true rfl⟩) hw hA (fun p34 H locs hp34 hw => ?_)
      obtain ⟨qf32, qa33, rfl, e36, e37, e38, e39, e40, e41, e42, e43, e44, e45, e46, e47, e48, e49⟩ := hp34
      replace e36 : TwO (qf32 2).toInt (qf 2).toInt (qf32 10).toInt (qf 10).toInt := e36
      have htw := e36; unfold TwO at htw
      replace e37 : (qf32 1).toInt = (qf 1).toInt := e37
      replace e38 : (qf32 4).toInt = (qf 4).toInt := e38
      replace e39 : (qf32 5).toInt = (qf 5).toInt := e39
      replace e40 : (qf32 6).toInt = (qf 6).toInt := e40
      replace e41 : (qf32 7).toInt = (qf 7).toInt := e41
      replace e42 : (qf32 11).toInt = (qf 11).toInt := e42
      replace e43 : (qf32 12).toInt = (qf 12).toInt := e43
      replace e44 : (qf32 13).toInt = (qf 13).toInt := e44
      replace e45 : (qf32 14).toInt = (qf 14).toInt := e45
      replace e46 : (qf32 21).toInt = (qf 21).toInt := e46
      replace e47 : (qf32 23).toInt = (qf 23).toInt := e47
      replace e48 : (qf32 24).toInt = (qf 24).toInt := e48
      replace e49 : WrU qa qa33 (qf 10).toInt (-1) := e49
      have hwr := hwr.tr2 e49 (by omega) (by omega)
      replace hw : pw D A s.heap H locs [wd_Mpr cs q qr (fun k => if k = 0 then (some h) else none) qf32 qa33 qg, wdP cs h r g tf ta pf na ma wa cf ca ef ea xf xa] := hw
      refine lv_aload_n S.x S.b d_Mpr_change_23 rfl (lv_at hl 0 rfl) ?_
      refine px_get S k_Mpr hT hw 0 0 2 (v := .int (qf32 2)) rfl rfl rfl (by decide) m10_225 d_Mpr_change_24 ?_
      refine lv_bipush (v := (-2)) S.x S.b d_Mpr_change_27 (by decide) ?_
      refine lv_icmp_eq (tgt := 33) S.x S.b d_Mpr_change_29 (by decide) (fun c50 => ?_) (fun c50 => ?_)
      · have nc50 : (qf32 2).toInt = (-2 : Int) := (i_eq (x := (qf32 2)) (y := (-2))).mp c50
        refine lv_aload_n S.x S.b d_Mpr_change_33 rfl (lv_at hl 0 rfl) ?_
        refine px_calli (pr := []) (px_runV (As := []) (rest := []) S (c_mr_take l D cs nf q qr qg qa33 qf32 h r g tf ta pf na ma wa cf ca ef ea xf xa   (show 1 ≤ (qf32 10).toInt from by first | with_reducible rfl | with_reducible assumption | omega) (show (qf32 10).toInt ≤ 62500 from by first | with_reducible rfl | with_reducible assumption | omega) _) hT (pr := []) (pcs := [wd_Mpr cs q qr (fun k => if k = 0 then (some h) else none) qf32 qa33 qg, wdP cs h r g tf ta pf na ma wa cf ca ef ea xf xa]) hw (oX_call (P := (fun A U H => (oP A g U H))) (pr := []) oG_P hw hA hP) (px_recv hT hw 0 0 rfl rfl rfl) m14_123 m14_120 m14_121 m14_122 m1_22 q_Mpr_take ⟨Nat.le_of_ble_eq_true rfl, Nat.le_of_ble_eq_true rfl⟩ hl.1 rfl (Nat.le_of_ble_eq_true rfl) d_Mpr_change_34 ⟨Nat.le_of_ble_eq_true rfl, Nat.le_of_ble_eq_true rfl⟩) hw hA (fun v54 p53 H locs hp53 hw => ?_)
        obtain ⟨qf52, rfl, e55, e56, e57, e58, e59, e60, e61, e62, e63, e64, e65, e66, e67, e68, e69⟩ := hp53
        replace e55 : (qf52 10).toInt = (qf32 10).toInt - 1 := e55
        replace e56 : (qf52 1).toInt = (qf32 1).toInt := e56
        replace e57 : (qf52 2).toInt = (qf32 2).toInt := e57
        replace e58 : (qf52 3).toInt = (qf32 3).toInt := e58
        replace e59 : (qf52 4).toInt = (qf32 4).toInt := e59
        replace e60 : (qf52 5).toInt = (qf32 5).toInt := e60
        replace e61 : (qf52 6).toInt = (qf32 6).toInt := e61
        replace e62 : (qf52 7).toInt = (qf32 7).toInt := e62
        replace e63 : (qf52 11).toInt = (qf32 11).toInt := e63
        replace e64 : (qf52 12).toInt = (qf32 12).toInt := e64
        replace e65 : (qf52 13).toInt = (qf32 13).toInt := e65
        replace e66 : (qf52 14).toInt = (qf32 14).toInt := e66
        replace e67 : (qf52 21).toInt = (qf32 21).toInt := e67
        replace e68 : (qf52 23).toInt = (qf32 23).toInt := e68
        replace e69 : (qf52 24).toInt = (qf32 24).toInt := e69
        replace hw : pw D A s.heap H locs [wd_Mpr cs q qr (fun k => if k = 0 then (some h) else none) qf52 qa33 qg, wdP cs h r g tf ta pf na ma wa cf ca ef ea xf xa] := hw
        have lv54 := Int32.le_toInt v54
        have uv54 := Int32.toInt_lt v54
        refine lv_istore (lv' := [(4, .int v54), (0, .ref q), (1, .int p0), (2, .int p1), (3, .int p2)]) S.x S.b d_Mpr_change_37 hl (by decide) rfl (fun ls hl => ?_)
        refine lv_aload_n S.x S.b d_Mpr_change_39 rfl (lv_at hl 1 rfl) ?_
        refine px_get S k_Mpr hT hw 0 0 8 (v := .ref (qr 8)) rfl rfl rfl (by decide) m10_236 d_Mpr_change_40 ?_
        refine lv_iload_n S.x S.b d_Mpr_change_43 rfl (lv_at hl 3 rfl) ?_
        refine lv_aload_n S.x S.b d_Mpr_change_44 rfl (lv_at hl 1 rfl) ?_
        refine lv_iload_n S.x S.b d_Mpr_change_45 rfl (lv_at hl 2 rfl) ?_
        refine lv_iload S.x S.b d_Mpr_change_46 (lv_at hl 0 rfl) ?_
        refine px_calli (pr := []) (px_runV (As := [.int p0, .int v54]) (rest := [.int p1, .ref (qr 8)]) S (c_mr_stored l D cs nf q qr qg qf52 qa33 h r g tf ta pf na ma wa cf ca ef ea xf xa p0 v54  (show 0 ≤ p0.toInt from by first | exact g0 | omega) (show p0.toInt < 1100 from by first | exact g1 | omega) _) hT (pr := []) (pcs := [wd_Mpr cs q qr (fun k => if k = 0 then (some h) else none) qf52 qa33 qg, wdP cs h r g tf ta pf na ma wa cf ca ef ea xf xa]) hw (oX_call (P := (fun A U H => (oP A g U H))) (pr := []) oG_P hw hA hP) (px_recv hT hw 0 0 rfl rfl rfl) m14_127 m14_124 m14_126 ms_16_12 m1_22 q_Mpr_stored ⟨Nat.le_of_ble_eq_true rfl, Nat.le_of_ble_eq_true rfl⟩ hl.1 rfl (Nat.le_of_ble_eq_true rfl) d_Mpr_change_48 ⟨Nat.le_of_ble_eq_true rfl, Nat.le_of_ble_eq_true rfl⟩) hw hA (fun v71 p70 H locs hp70 hw => ?_)
        subst hp70
        replace hw : pw D A s.heap H locs [wd_Mpr cs q qr (fun k => if k = 0 then (some h) else none) qf52 qa33 qg, wdP cs h r g tf ta pf na ma wa cf ca ef ea xf xa] := hw
        have lv71 := Int32.le_toInt v71
        have uv71 := Int32.toInt_lt v71
        refine px_iast S hT hw 0 1 (n := 37000) (f := (qa33 8)) (x := p1) (y := v71) rfl (ga_Mpr_8 _ _ _ _ _ _ _) (vp_in_iff.mpr (by constructor <;> omega)) d_Mpr_change_51 (w' := wd_Mpr cs q qr (fun k => if k = 0 then (some h) else none) qf52 (va_up qa33 8 (upd (qa33 8) p1.toNatClampNeg v71)) qg) (ps' := [wd_Mpr cs q qr (fun k => if k = 0 then (some h) else none) qf52 (va_up qa33 8 (upd (qa33 8) p1.toNatClampNeg v71)) qg, wdP cs h r g tf ta pf na ma wa cf ca ef ea xf xa]) (sa_Mpr_8 _ _ _ _ _ _ _ _) rfl (fun H locs hw => ?_)
        obtain ⟨qa72, hu_qa72⟩ : ∃ y : Nat → Nat → Int32, y = va_up qa33 8 (upd (qa33 8) p1.toNatClampNeg v71) := ⟨_, rfl⟩; have hw : pw D A s.heap _ _ [wd_Mpr cs q qr (fun k => if k = 0 then (some h) else none) qf52 qa72 qg, wdP cs h r g tf ta pf na ma wa cf ca ef ea xf xa] := (by rw [hu_qa72]; exact hw); have hwr := hwr.tr2 (NuU.c (n := (qf 10).toInt) (nuu_mk (n := p1.toInt) hu_qa72 (by omega) rfl)) (by omega) (by omega)
        refine lv_aload_n S.x S.b d_Mpr_change_52 rfl (lv_at hl 1 rfl) ?_
        refine lv_aload_n S.x S.b d_Mpr_change_53 rfl (lv_at hl 1 rfl) ?_
        refine px_get S k_Mpr hT hw 0 0 8 (v := .ref (qr 8)) rfl rfl rfl (by decide) m10_236 d_Mpr_change_54 ?_
        refine lv_iload_n S.x S.b d_Mpr_change_57 rfl (lv_at hl 3 rfl) ?_
        refine px_iald S hT hw 0 1 (n := 37000) (f := (qa72 8)) rfl (ga_Mpr_8 _ _ _ _ _ _ _) (x := p1) (vp_in_iff.mpr (by first | exact oz_fdd92cadf4 nc1 g3 | (constructor <;> omega))) d_Mpr_change_58 ?_
        refine lv_topi (fun z73 ez73 => ?_)
        have lz73 := Int32.le_toInt z73
        have uz73 := Int32.toInt_lt z73
        refine px_callv (pr := []) (px_runV (As := [.int z73]) (rest := []) S (c_mr_give l D cs nf q qr qg qf52 qa72 h r g tf ta pf na ma wa cf ca ef ea xf xa z73  (show 0 ≤ (qf52 10).toInt from by first | with_reducible rfl | with_reducible assumption | omega) (show (qf52 10).toInt < 62500 from by first | with_reducible rfl | with_reducible assumption | omega) _) hT (pr := []) (pcs := [wd_Mpr cs q qr (fun k => if k = 0 then (some h) else none) qf52 qa72 qg, wdP cs h r g tf ta pf na ma wa cf ca ef ea xf xa]) hw (oX_call (P := (fun A U H => (oP A g U H))) (pr := []) oG_P hw hA hP) (px_recv hT hw 0 0 rfl rfl rfl) m13_161 m13_158 m13_159 m13_160 m1_22 q_Mpr_give ⟨Nat.le_of_ble_eq_true rfl, Nat.le_of_ble_eq_true rfl⟩ hl.1 rfl (Nat.le_of_ble_eq_true rfl) d_Mpr_change_59 ⟨Nat.le_of_ble_eq_true rfl, Nat.le_of_ble_eq_true rfl⟩) hw hA (fun p78 H locs hp78 hw => ?_)
        obtain ⟨qf76, qa77, rfl, e80, e81, e82, e83, e84, e85, e86, e87, e88, e89, e90, e91, e92, e93, e94, e95⟩ := hp78
        replace e80 : (qf76 10).toInt = (qf52 10).toInt + 1 := e80
        replace e81 : (qf76 1).toInt = (qf52 1).toInt := e81
        replace e82 : (qf76 2).toInt = (qf52 2).toInt := e82
        replace e83 : (qf76 3).toInt = (qf52 3).toInt := e83
        replace e84 : (qf76 4).toInt = (qf52 4).toInt := e84
        replace e85 : (qf76 5).toInt = (qf52 5).toInt := e85
        replace e86 : (qf76 6).toInt = (qf52 6).toInt := e86
        replace e87 : (qf76 7).toInt = (qf52 7).toInt := e87
        replace e88 : (qf76 11).toInt = (qf52 11).toInt := e88
        replace e89 : (qf76 12).toInt = (qf52 12).toInt := e89
        replace e90 : (qf76 13).toInt = (qf52 13).toInt := e90
        replace e91 : (qf76 14).toInt = (qf52 14).toInt := e91
        replace e92 : (qf76 21).toInt = (qf52 21).toInt := e92
        replace e93 : (qf76 23).toInt = (qf52 23).toInt := e93
        replace e94 : (qf76 24).toInt = (qf52 24).toInt := e94
        replace e95 : NuU qa72 qa77 9 (qf52 10).toInt z73 := e95
        have hwr := hwr.tr2 (c' := p1.toInt) (NuU.w (c := p1.toInt) e95) (by omega) (by omega)
        replace hw : pw D A s.heap H locs [wd_Mpr cs q qr (fun k => if k = 0 then (some h) else none) qf76 qa77 qg, wdP cs h r g tf ta pf na ma wa cf ca ef ea xf xa] := hw
        exact px_vret S hr hlk hAe hw (Nat.le_of_ble_eq_true rfl) (Nat.le_of_ble_eq_true rfl) (⟨qf76, qa77, rfl, (show ChO p1.toInt (qf76 2).toInt (qf 2).toInt (qf76 10).toInt (qf 10).toInt from (Or.inr ⟨by omega, Or.inl ⟨by omega, by omega⟩⟩)), (show (qf76 1).toInt = (qf 1).toInt from by first | exact oz_e13fc83238 e37 e81 e56 | omega), (show (qf76 4).toInt = (qf 4).toInt from by first | exact oz_e13fc83238 e38 e84 e59 | omega), (show (qf76 5).toInt = (qf 5).toInt from by first | exact oz_e13fc83238 e39 e85 e60 | omega), (show (qf76 6).toInt = (qf 6).toInt from by first | exact oz_e13fc83238 e40 e86 e61 | omega), (show (qf76 7).toInt = (qf 7).toInt from by first | exact oz_e13fc83238 e41 e87 e62 | omega), (show (qf76 11).toInt = (qf 11).toInt from by first | exact oz_e13fc83238 e42 e88 e63 | omega), (show (qf76 12).toInt = (qf 12).toInt from by first | exact oz_e13fc83238 e43 e89 e64 | omega), (show (qf76 13).toInt = (qf 13).toInt from by first | exact oz_e13fc83238 e44 e90 e65 | omega), (show (qf76 14).toInt = (qf 14).toInt from by first | exact oz_e13fc83238 e45 e91 e66 | omega), (show (qf76 21).toInt = (qf 21).toInt from by first | exact oz_e13fc83238 e46 e92 e67 | omega), (show (qf76 23).toInt = (qf 23).toInt from by first | exact oz_e13fc83238 e47 e93 e68 | omega), (show (qf76 24).toInt = (qf 24).toInt from by first | exact oz_e13fc83238 e48 e94 e69 | omega), (show WrU qa qa77 (qf 10).toInt p1.toInt from hwr)⟩) d_Mpr_change_62
      · have nc50 : ¬ (qf32 2).toInt = (-2 : Int) := mt (i_eq (x := (qf32 2)) (y := (-2))).mpr c50
        exact px_vret S hr hlk hAe hw (Nat.le_of_ble_eq_true rfl) (Nat.le_of_ble_eq_true rfl) (⟨qf32, qa33, rfl, (show ChO p1.toInt (qf32 2).toInt (qf 2).toInt (qf32 10).toInt (qf 10).toInt from (Or.inr ⟨by omega, Or.inr ⟨by omega, by omega⟩⟩)), (show (qf32 1).toInt = (qf 1).toInt from by first | exact e37 | omega), (show (qf32 4).toInt = (qf 4).toInt from by first | exact e38 | omega), (show (qf32 5).toInt = (qf 5).toInt from by first | exact e39 | omega), (show (qf32 6).toInt = (qf 6).toInt from by first | exact e40 | omega), (show (qf32 7).toInt = (qf 7).toInt from by first | exact e41 | omega), (show (qf32 11).toInt = (qf 11).toInt from by first | exact e42 | omega), (show (qf32 12).toInt = (qf 12).toInt from by first | exact e43 | omega), (show (qf32 13).toInt = (qf 13).toInt from by first | exact e44 | omega), (show (qf32 14).toInt = (qf 14).toInt from by first | exact e45 | omega), (show (qf32 21).toInt = (qf 21).toInt from by first | exact e46 | omega), (show (qf32 23).toInt = (qf 23).toInt from by first | exact e47 | omega), (show (qf32 24).toInt = (qf 24).toInt from by first | exact e48 | omega), (show WrU qa qa33 (qf 10).toInt p1.toInt from hwr)⟩) d_Mpr_change_32
  · have nc1 : ¬ (0 : Int) ≤ p1.toInt := mt (i_le (x := 0) (y := p1)).mpr c1
    exact px_vret S hr hlk hAe hw (Nat.le_of_ble_eq_true rfl) (Nat.le_of_ble_eq_true rfl) (⟨qf, qa, rfl, (show ChO p1.toInt (qf 2).toInt (qf 2).toInt (qf 10).toInt (qf 10).toInt from (Or.inl ⟨by omega, by omega, by omega⟩)), (show (qf 1).toInt = (qf 1).toInt from rfl), (show (qf 4).toInt = (qf 4).toInt from rfl), (show (qf 5).toInt = (qf 5).toInt from rfl), (show (qf 6).toInt = (qf 6).toInt from rfl), (show (qf 7).toInt = (qf 7).toInt from rfl), (show (qf 11).toInt = (qf 11).toInt from rfl), (show (qf 12).toInt = (qf 12).toInt from rfl), (show (qf 13).toInt = (qf 13).toInt from rfl), (show (qf 14).toInt = (qf 14).toInt from rfl), (show (qf 21).toInt = (qf 21).toInt from rfl), (show (qf 23).toInt = (qf 23).toInt from rfl), (show (qf 24).toInt = (qf 24).toInt from rfl), (show WrU qa qa (qf 10).toInt p1.toInt from hwr)⟩) d_Mpr_change_4
abbrev b_Mpr_move : ByteArray := prog_15_method_17_code
def y_Mpr_move : MethodName := ⟨"HomeSystemModel$Process", "move", "(III)V"⟩
theorem d_Mpr_move_0 : decode b_Mpr_move 0 = .ok (.iload_n 2, 1) := by decide +kernel
theorem d_Mpr_move_1 : decode b_Mpr_move 1 = .ok (.ifCond .lt 62, 3) := by decide +kernel
theorem d_Mpr_move_4 : decode b_Mpr_move 4 = .ok (.aload_n 0, 1) := by decide +kernel
theorem d_Mpr_move_5 : decode b_Mpr_move 5 = .ok (.getfield 10, 3) := by decide +kernel
theorem d_Mpr_move_8 : decode b_Mpr_move 8 = .ok (.iload_n 2, 1) := by decide +kernel
theorem d_Mpr_move_9 : decode b_Mpr_move 9 = .ok (.iaload, 1) := by decide +kernel
theorem d_Mpr_move_10 : decode b_Mpr_move 10 = .ok (.istore 4, 2) := by decide +kernel
theorem d_Mpr_move_12 : decode b_Mpr_move 12 = .ok (.aload_n 0, 1) := by decide +kernel
theorem d_Mpr_move_13 : decode b_Mpr_move 13 = .ok (.getfield 10, 3) := by decide +kernel
theorem d_Mpr_move_16 : decode b_Mpr_move 16 = .ok (.iload_n 2, 1) := by decide +kernel
theorem d_Mpr_move_17 : decode b_Mpr_move 17 = .ok (.aload_n 0, 1) := by decide +kernel
theorem d_Mpr_move_18 : decode b_Mpr_move 18 = .ok (.iload_n 1, 1) := by decide +kernel
theorem d_Mpr_move_19 : decode b_Mpr_move 19 = .ok (.iload_n 3, 1) := by decide +kernel
theorem d_Mpr_move_20 : decode b_Mpr_move 20 = .ok (.iconst 1, 1) := by decide +kernel
theorem d_Mpr_move_21 : decode b_Mpr_move 21 = .ok (.iand, 1) := by decide +kernel
theorem d_Mpr_move_22 : decode b_Mpr_move 22 = .ok (.iconst 1, 1) := by decide +kernel
theorem d_Mpr_move_23 : decode b_Mpr_move 23 = .ok (.if_icmp .ne 10, 3) := by decide +kernel
theorem d_Mpr_move_26 : decode b_Mpr_move 26 = .ok (.iload 4, 2) := by decide +kernel
theorem d_Mpr_move_28 : decode b_Mpr_move 28 = .ok (.iconst 1, 1) := by decide +kernel
theorem d_Mpr_move_29 : decode b_Mpr_move 29 = .ok (.iadd, 1) := by decide +kernel
theorem d_Mpr_move_30 : decode b_Mpr_move 30 = .ok (.goto 7, 3) := by decide +kernel
theorem d_Mpr_move_33 : decode b_Mpr_move 33 = .ok (.iload 4, 2) := by decide +kernel
theorem d_Mpr_move_35 : decode b_Mpr_move 35 = .ok (.iconst 1, 1) := by decide +kernel
theorem d_Mpr_move_36 : decode b_Mpr_move 36 = .ok (.isub, 1) := by decide +kernel
theorem d_Mpr_move_37 : decode b_Mpr_move 37 = .ok (.invokevirtual 145, 3) := by decide +kernel
theorem d_Mpr_move_40 : decode b_Mpr_move 40 = .ok (.iastore, 1) := by decide +kernel
theorem d_Mpr_move_41 : decode b_Mpr_move 41 = .ok (.aload_n 0, 1) := by decide +kernel
theorem d_Mpr_move_42 : decode b_Mpr_move 42 = .ok (.iload_n 3, 1) := by decide +kernel
theorem d_Mpr_move_43 : decode b_Mpr_move 43 = .ok (.iconst 2, 1) := by decide +kernel
theorem d_Mpr_move_44 : decode b_Mpr_move 44 = .ok (.iand, 1) := by decide +kernel
theorem d_Mpr_move_45 : decode b_Mpr_move 45 = .ok (.iconst 2, 1) := by decide +kernel
theorem d_Mpr_move_46 : decode b_Mpr_move 46 = .ok (.if_icmp .ne 12, 3) := by decide +kernel
theorem d_Mpr_move_49 : decode b_Mpr_move 49 = .ok (.aload_n 0, 1) := by decide +kernel
theorem d_Mpr_move_50 : decode b_Mpr_move 50 = .ok (.getfield 10, 3) := by decide +kernel
theorem d_Mpr_move_53 : decode b_Mpr_move 53 = .ok (.iload_n 2, 1) := by decide +kernel
theorem d_Mpr_move_54 : decode b_Mpr_move 54 = .ok (.iaload, 1) := by decide +kernel
theorem d_Mpr_move_55 : decode b_Mpr_move 55 = .ok (.goto 5, 3) := by decide +kernel
theorem d_Mpr_move_58 : decode b_Mpr_move 58 = .ok (.iload 4, 2) := by decide +kernel
theorem d_Mpr_move_60 : decode b_Mpr_move 60 = .ok (.invokevirtual 105, 3) := by decide +kernel
theorem d_Mpr_move_63 : decode b_Mpr_move 63 = .ok (.return_, 1) := by decide +kernel
theorem q_Mpr_move : px_y y_Mpr_move 3 := by unfold px_y; decide +kernel
set_option maxHeartbeats 4000000 in
set_option maxRecDepth 100000 in
theorem c_mr_move (l : Launch) (D : va_G) (cs : Nat → ClassId) (nf : Int) (q : Nat) (qr : Nat → Nat) (qg : Nat → Nat → Option Nat) (qf : Nat → Int32) (qa : Nat → Nat → Int32) (h : Nat) (r : Nat → Nat) (g : Nat → Nat → Option Nat) (tf : Nat → Int32) (ta : Nat → Nat → Int32) (pf : Nat → Int32) (na : Nat → Nat → Int32) (ma : Nat → Nat → Int32) (wa : Nat → Nat → Int32) (cf : Nat → Int32) (ca : Nat → Nat → Int32) (ef : Nat → Int32) (ea : Nat → Nat → Int32) (xf : Nat → Int32) (xa : Nat → Nat → Int32) (p0 p1 p2 : Int32)  (g0 : 0 ≤ p0.toInt) (g1 : p0.toInt < 1100) (g2 : -1 ≤ p1.toInt) (g3 : p1.toInt < 37000) (g4 : 0 ≤ (qf 10).toInt) (g5 : (qf 10).toInt < 62000) (g6 : 0 ≤ p1.toInt → (qf 2).toInt = -2) : MetV l y_Mpr_move b_Mpr_move 5 D cs 7 240 (0) (0) [.ref q, .int p0, .int p1, .int p2] [wd_Mpr cs q qr (fun k => if k = 0 then (some h) else none) qf qa qg, wdP cs h r g tf ta pf na ma wa cf ca ef ea xf xa] (oX (fun A U H => (oP A g U H)) [wd_Mpr cs q qr (fun k => if k = 0 then (some h) else none) qf qa qg, wdP cs h r g tf ta pf na ma wa cf ca ef ea xf xa]) (fun ps => ∃ (qf' : Nat → Int32) (qa' : Nat → Nat → Int32), (ps = [wd_Mpr cs q qr (fun k => if k = 0 then (some h) else none) qf' qa' qg, wdP cs h r g tf ta pf na ma wa cf ca ef ea xf xa]) ∧ (ChO p1.toInt (qf' 2).toInt (qf 2).toInt (qf' 10).toInt (qf 10).toInt) ∧ ((qf' 1).toInt = (qf 1).toInt) ∧ ((qf' 4).toInt = (qf 4).toInt) ∧ ((qf' 5).toInt = (qf 5).toInt) ∧ ((qf' 6).toInt = (qf 6).toInt) ∧ ((qf' 7).toInt = (qf 7).toInt) ∧ ((qf' 11).toInt = (qf 11).toInt) ∧ ((qf' 12).toInt = (qf 12).toInt) ∧ ((qf' 13).toInt = (qf 13).toInt) ∧ ((qf' 14).toInt = (qf 14).toInt) ∧ ((qf' 21).toInt = (qf 21).toInt) ∧ ((qf' 23).toInt = (qf 23).toInt) ∧ ((qf' 24).toInt = (qf 24).toInt) ∧ (WrU qa qa' (qf 10).toInt p1.toInt)) := by
  refine px_enter (by decide) (Nat.le_of_ble_eq_true rfl) ?_
  intro p e s m below meth c A ls hAe S hr hlk hnm hA hT hX hw hl
  replace hl : lv_has ls 5 [(0, .ref q), (1, .int p0), (2, .int p1), (3, .int p2)] := hl
  have lp0 := Int32.le_toInt p0
  have up0 := Int32.toInt_lt p0
  have lp1 := Int32.le_toInt p1
  have up1 := Int32.toInt_lt p1
  have lp2 := Int32.le_toInt p2
  have up2 := Int32.toInt_lt p2
  have cst1 : (1 : Int32).toInt = 1 := rfl
  have cst2 : (2 : Int32).toInt = 2 := rfl
  have hX : (fun A U H => (oP A g U H)) A s s.heap := by rw [hAe]; exact hX
  have hP := hX
  have hZ := hP.1
  have hF0 := hP.2.1
  have hwr : WrU qa qa (qf 10).toInt p1.toInt := WrU.rf
  refine lv_iload_n S.x S.b d_Mpr_move_0 rfl (lv_at hl 2 rfl) ?_
  refine lv_if_lt (tgt := 63) S.x S.b d_Mpr_move_1 (by decide) (fun c1 => ?_) (fun c1 => ?_)
  · have nc1 : p1.toInt < (0 : Int) := (i_lt (x := p1) (y := 0)).mp c1
    exact px_vret S hr hlk hAe hw (Nat.le_of_ble_eq_true rfl) (Nat.le_of_ble_eq_true rfl) (⟨qf, qa, rfl, (show ChO p1.toInt (qf 2).toInt (qf 2).toInt (qf 10).toInt (qf 10).toInt from (Or.inl ⟨by omega, by omega, by omega⟩)), (show (qf 1).toInt = (qf 1).toInt from rfl), (show (qf 4).toInt = (qf 4).toInt from rfl), (show (qf 5).toInt = (qf 5).toInt from rfl), (show (qf 6).toInt = (qf 6).toInt from rfl), (show (qf 7).toInt = (qf 7).toInt from rfl), (show (qf 11).toInt = (qf 11).toInt from rfl), (show (qf 12).toInt = (qf 12).toInt from rfl), (show (qf 13).toInt = (qf 13).toInt from rfl), (show (qf 14).toInt = (qf 14).toInt from rfl), (show (qf 21).toInt = (qf 21).toInt from rfl), (show (qf 23).toInt = (qf 23).toInt from rfl), (show (qf 24).toInt = (qf 24).toInt from rfl), (show WrU qa qa (qf 10).toInt p1.toInt from hwr)⟩) d_Mpr_move_63
  · have nc1 : ¬ p1.toInt < (0 : Int) := mt (i_lt (x := p1) (y := 0)).mpr c1
    refine lv_aload_n S.x S.b d_Mpr_move_4 rfl (lv_at hl 0 rfl) ?_
    refine px_get S k_Mpr hT hw 0 0 8 (v := .ref (qr 8)) rfl rfl rfl (by decide) m10_236 d_Mpr_move_5 ?_
    refine lv_iload_n S.x S.b d_Mpr_move_8 rfl (lv_at hl 2 rfl) ?_
    refine px_iald S hT hw 0 1 (n := 37000) (f := (qa 8)) rfl (ga_Mpr_8 _ _ _ _ _ _ _) (x := p1) (vp_in_iff.mpr (by first | exact oz_d1e68178d5 nc1 g3 | (constructor <;> omega))) d_Mpr_move_9 ?_
    refine lv_topi (fun z2 ez2 => ?_)
    have lz2 := Int32.le_toInt z2
    have uz2 := Int32.toInt_lt z2
    refine lv_istore (lv' := [(4, .int z2), (0, .ref q), (1, .int p0), (2, .int p1), (3, .int p2)]) S.x S.b d_Mpr_move_10 hl (by decide) rfl (fun ls hl => ?_)
    refine lv_aload_n S.x S.b d_Mpr_move_12 rfl (lv_at hl 1 rfl) ?_
    refine px_get S k_Mpr hT hw 0 0 8 (v := .ref (qr 8)) rfl rfl rfl (by decide) m10_236 d_Mpr_move_13 ?_
    refine lv_iload_n S.x S.b d_Mpr_move_16 rfl (lv_at hl 3 rfl) ?_
    refine lv_aload_n S.x S.b d_Mpr_move_17 rfl (lv_at hl 1 rfl) ?_
    refine lv_iload_n S.x S.b d_Mpr_move_18 rfl (lv_at hl 2 rfl) ?_
    refine lv_iload_n S.x S.b d_Mpr_move_19 rfl (lv_at hl 4 rfl) ?_
    refine lv_iconst (v := 1) S.x S.b d_Mpr_move_20 (by decide) ?_
    refine lv_iand S.x S.b d_Mpr_move_21 ?_
    refine lv_topi (fun z3 ez3 => ?_)
    have lz3 := Int32.le_toInt z3
    have uz3 := Int32.toInt_lt z3
    have bz3 := i_andm p2 (m := 1) 1 (by decide) (by decide)
    rw [← ez3] at bz3
    have wz3 : 0 ≤ z3.toInt ∧ z3.toInt ≤ 1 := by simp only [Nat.reducePow, Int.reducePow] at bz3; omega
    refine lv_iconst (v := 1) S.x S.b d_Mpr_move_22 (by decide) ?_
    refine lv_icmp_ne (tgt := 33) S.x S.b d_Mpr_move_23 (by decide) (fun c4 => ?_) (fun c4 => ?_)
    · have nc4 : ¬ z3.toInt = (1 : Int) := mt (i_eq (x := z3) (y := 1)).mpr c4
      refine lv_iload S.x S.b d_Mpr_move_33 (lv_at hl 0 rfl) ?_
      refine lv_iconst (v := 1) S.x S.b d_Mpr_move_35 (by decide) ?_
      refine lv_isub S.x S.b d_Mpr_move_36 ?_
      refine lv_topi (fun z5 ez5 => ?_)
      have tz5 : z5.toInt = (z2.toInt - (1 : Int) + 2147483648) % 4294967296 - 2147483648 := by rw [ez5]; exact i_sub z2 1
      have lz5 := Int32.le_toInt z5
      have uz5 := Int32.toInt_lt z5
      try replace tz5 : z5.toInt = z2.toInt - (1 : Int) := by omega
      refine px_calli (pr := []) (px_runV (As := [.int p0, .int z5]) (rest := [.int p1, .ref (qr 8)]) S (c_mr_stored l D cs nf q qr qg qf qa h r g tf ta pf na ma wa cf ca ef ea xf xa p0 z5  (show 0 ≤ p0.toInt from by first | exact g0 | omega) (show p0.toInt < 1100 from by first | exact g1 | omega) _) hT (pr := []) (pcs := [wd_Mpr cs q qr (fun k => if k = 0 then (some h) else none) qf qa qg, wdP cs h r g tf ta pf na ma wa cf ca ef ea xf xa]) hw (oX_call (P := (fun A U H => (oP A g U H))) (pr := []) oG_P hw hA hP) (px_recv hT hw 0 0 rfl rfl rfl) m14_127 m14_124 m14_126 ms_16_12 m1_22 q_Mpr_stored ⟨Nat.le_of_ble_eq_true rfl, Nat.le_of_ble_eq_true rfl⟩ hl.1 rfl (Nat.le_of_ble_eq_true rfl) d_Mpr_move_37 ⟨Nat.le_of_ble_eq_true rfl, Nat.le_of_ble_eq_true rfl⟩) hw hA (fun v7 p6 H locs hp6 hw => ?_)
      subst hp6
      replace hw : pw D A s.heap H locs [wd_Mpr cs q qr (fun k => if k = 0 then (some h) else none) qf qa qg, wdP cs h r g tf ta pf na ma wa cf ca ef ea xf xa] := hw
      have lv7 := Int32.le_toInt v7
      have uv7 := Int32.toInt_lt v7
      refine px_iast S hT hw 0 1 (n := 37000) (f := (qa 8)) (x := p1) (y := v7) rfl (ga_Mpr_8 _ _ _ _ _ _ _) (vp_in_iff.mpr (by constructor <;> omega)) d_Mpr_move_40 (w' := wd_Mpr cs q qr (fun k => if k = 0 then (some h) else none) qf (va_up qa 8 (upd (qa 8) p1.toNatClampNeg v7)) qg) (ps' := [wd_Mpr cs q qr (fun k => if k = 0 then (some h) else none) qf (va_up qa 8 (upd (qa 8) p1.toNatClampNeg v7)) qg, wdP cs h r g tf ta pf na ma wa cf ca ef ea xf xa]) (sa_Mpr_8 _ _ _ _ _ _ _ _) rfl (fun H locs hw => ?_)
      obtain ⟨qa8, hu_qa8⟩ : ∃ y : Nat → Nat → Int32, y = va_up qa 8 (upd (qa 8) p1.toNatClampNeg v7) := ⟨_, rfl⟩; have hw : pw D A s.heap _ _ [wd_Mpr cs q qr (fun k => if k = 0 then (some h) else none) qf qa8 qg, wdP cs h r g tf ta pf na ma wa cf ca ef ea xf xa] := (by rw [hu_qa8]; exact hw); have hwr := hwr.tr2 (NuU.c (n := (qf 10).toInt) (nuu_mk (n := p1.toInt) hu_qa8 (by omega) rfl)) (by omega) (by omega)
      refine lv_aload_n S.x S.b d_Mpr_move_41 rfl (lv_at hl 1 rfl) ?_
      refine lv_iload_n S.x S.b d_Mpr_move_42 rfl (lv_at hl 4 rfl) ?_
      refine lv_iconst (v := 2) S.x S.b d_Mpr_move_43 (by decide) ?_
      refine lv_iand S.x S.b d_Mpr_move_44 ?_
      refine lv_topi (fun z9 ez9 => ?_)
      have lz9 := Int32.le_toInt z9
      have uz9 := Int32.toInt_lt z9
      refine lv_iconst (v := 2) S.x S.b d_Mpr_move_45 (by decide) ?_
      refine lv_icmp_ne (tgt := 58) S.x S.b d_Mpr_move_46 (by decide) (fun c10 => ?_) (fun c10 => ?_)
      · have nc10 : ¬ z9.toInt = (2 : Int) := mt (i_eq (x := z9) (y := 2)).mpr c10
        refine lv_iload S.x S.b d_Mpr_move_58 (lv_at hl 0 rfl) ?_
        refine px_callv (pr := []) (px_runV (As := [.int z2]) (rest := []) S (c_mr_give l D cs nf q qr qg qf qa8 h r g tf ta pf na ma wa cf ca ef ea xf xa z2  (show 0 ≤ (qf 10).toInt from by first | exact g4 | omega) (show (qf 10).toInt < 62500 from by first | exact oz_7621ce4cd5 g5 | omega) _) hT (pr := []) (pcs := [wd_Mpr cs q qr (fun k => if k = 0 then (some h) else none) qf qa8 qg, wdP cs h r g tf ta pf na ma wa cf ca ef ea xf xa]) hw (oX_call (P := (fun A U H => (oP A g U H))) (pr := []) oG_P hw hA hP) (px_recv hT hw 0 0 rfl rfl rfl) m13_161 m13_158 m13_159 m13_160 m1_22 q_Mpr_give ⟨Nat.le_of_ble_eq_true rfl, Nat.le_of_ble_eq_true rfl⟩ hl.1 rfl (Nat.le_of_ble_eq_true rfl) d_Mpr_move_60 ⟨Nat.le_of_ble_eq_true rfl, Nat.le_of_ble_eq_true rfl⟩) hw hA (fun p15 H locs hp15 hw => ?_)
        obtain ⟨qf13, qa14, rfl, e17, e18, e19, e20, e21, e22, e23, e24, e25, e26, e27, e28, e29, e30, e31, e32⟩ := hp15
        replace e17 : (qf13 10).toInt = (qf 10).toInt + 1 := e17
        replace e18 : (qf13 1).toInt = (qf 1).toInt := e18
        replace e19 : (qf13 2).toInt = (qf 2).toInt := e19
        replace e20 : (qf13 3).toInt = (qf 3).toInt := e20
        replace e21 : (qf13 4).toInt = (qf 4).toInt := e21
        replace e22 : (qf13 5).toInt = (qf 5).toInt := e22
        replace e23 : (qf13 6).toInt = (qf 6).toInt := e23
        replace e24 : (qf13 7).toInt = (qf 7).toInt := e24
        replace e25 : (qf13 11).toInt = (qf 11).toInt := e25
        replace e26 : (qf13 12).toInt = (qf 12).toInt := e26
        replace e27 : (qf13 13).toInt = (qf 13).toInt := e27
        replace e28 : (qf13 14).toInt = (qf 14).toInt := e28
        replace e29 : (qf13 21).toInt = (qf 21).toInt := e29
        replace e30 : (qf13 23).toInt = (qf 23).toInt := e30
        replace e31 : (qf13 24).toInt = (qf 24).toInt := e31
        replace e32 : NuU qa8 qa14 9 (qf 10).toInt z2 := e32
        have hwr := hwr.tr2 (c' := p1.toInt) (NuU.w (c := p1.toInt) e32) (by omega) (by omega)
        replace hw : pw D A s.heap H locs [wd_Mpr cs q qr (fun k => if k = 0 then (some h) else none) qf13 qa14 qg, wdP cs h r g tf ta pf na ma wa cf ca ef ea xf xa] := hw
        exact px_vret S hr hlk hAe hw (Nat.le_of_ble_eq_true rfl) (Nat.le_of_ble_eq_true rfl) (⟨qf13, qa14, rfl, (show ChO p1.toInt (qf13 2).toInt (qf 2).toInt (qf13 10).toInt (qf 10).toInt from (Or.inr ⟨by omega, Or.inl ⟨by omega, by omega⟩⟩)), (show (qf13 1).toInt = (qf 1).toInt from by first | exact e18 | omega), (show (qf13 4).toInt = (qf 4).toInt from by first | exact e21 | omega), (show (qf13 5).toInt = (qf 5).toInt from by first | exact e22 | omega), (show (qf13 6).toInt = (qf 6).toInt from by first | exact e23 | omega), (show (qf13 7).toInt = (qf 7).toInt from by first | exact e24 | omega), (show (qf13 11).toInt = (qf 11).toInt from by first | exact e25 | omega), (show (qf13 12).toInt = (qf 12).toInt from by first | exact e26 | omega), (show (qf13 13).toInt = (qf 13).toInt from by first | exact e27 | omega), (show (qf13 14).toInt = (qf 14).toInt from by first | exact e28 | omega), (show (qf13 21).toInt = (qf 21).toInt from by first | exact e29 | omega), (show (qf13 23).toInt = (qf 23).toInt from by first | exact e30 | omega), (show (qf13 24).toInt = (qf 24).toInt from by first | exact e31 | omega), (show WrU qa qa14 (qf 10).toInt p1.toInt from hwr)⟩) d_Mpr_move_63
      · have nc10 : z9.toInt = (2 : Int) := (i_eq (x := z9) (y := 2)).mp c10
        refine lv_aload_n S.x S.b d_Mpr_move_49 rfl (lv_at hl 1 rfl) ?_
        refine px_get S k_Mpr hT hw 0 0 8 (v := .ref (qr 8)) rfl rfl rfl (by decide) m10_236 d_Mpr_move_50 ?_
        refine lv_iload_n S.x S.b d_Mpr_move_53 rfl (lv_at hl 3 rfl) ?_
        refine px_iald S hT hw 0 1 (n := 37000) (f := (qa8 8)) rfl (ga_Mpr_8 _ _ _ _ _ _ _) (x := p1) (vp_in_iff.mpr (by first | exact oz_d1e68178d5 nc1 g3 | (constructor <;> omega))) d_Mpr_move_54 ?_
        refine lv_topi (fun z33 ez33 => ?_)
        have lz33 := Int32.le_toInt z33
        have uz33 := Int32.toInt_lt z33
        refine lv_goto (tgt := 60) S.x S.b d_Mpr_move_55 (by decide) ?_
        refine px_callv (pr := []) (px_runV (As := [.int z33]) (rest := []) S (c_mr_give l D cs nf q qr qg qf qa8 h r g tf ta pf na ma wa cf ca ef ea xf xa z33  (show 0 ≤ (qf 10).toInt from by first | exact g4 | omega) (show (qf 10).toInt < 62500 from by first | exact oz_7621ce4cd5 g5 | omega) _) hT (pr := []) (pcs := [wd_Mpr cs q qr (fun k => if k = 0 then (some h) else none) qf qa8 qg, wdP cs h r g tf ta pf na ma wa cf ca ef ea xf xa]) hw (oX_call (P := (fun A U H => (oP A g U H))) (pr := []) oG_P hw hA hP) (px_recv hT hw 0 0 rfl rfl rfl) m13_161 m13_158 m13_159 m13_160 m1_22 q_Mpr_give ⟨Nat.le_of_ble_eq_true rfl, Nat.le_of_ble_eq_true rfl⟩ hl.1 rfl (Nat.le_of_ble_eq_true rfl) d_Mpr_move_60 ⟨Nat.le_of_ble_eq_true rfl, Nat.le_of_ble_eq_true rfl⟩) hw hA (fun p38 H locs hp38 hw => ?_)
        obtain ⟨qf36, qa37, rfl, e40, e41, e42, e43, e44, e45, e46, e47, e48, e49, e50, e51, e52, e53, e54, e55⟩ := hp38
        replace e40 : (qf36 10).toInt = (qf 10).toInt + 1 := e40
        replace e41 : (qf36 1).toInt = (qf 1).toInt := e41
        replace e42 : (qf36 2).toInt = (qf 2).toInt := e42
        replace e43 : (qf36 3).toInt = (qf 3).toInt := e43
        replace e44 : (qf36 4).toInt = (qf 4).toInt := e44
        replace e45 : (qf36 5).toInt = (qf 5).toInt := e45
        replace e46 : (qf36 6).toInt = (qf 6).toInt := e46
        replace e47 : (qf36 7).toInt = (qf 7).toInt := e47
        replace e48 : (qf36 11).toInt = (qf 11).toInt := e48
        replace e49 : (qf36 12).toInt = (qf 12).toInt := e49
        replace e50 : (qf36 13).toInt = (qf 13).toInt := e50
        replace e51 : (qf36 14).toInt = (qf 14).toInt := e51
        replace e52 : (qf36 21).toInt = (qf 21).toInt := e52
        replace e53 : (qf36 23).toInt = (qf 23).toInt := e53
        replace e54 : (qf36 24).toInt = (qf 24).toInt := e54
        replace e55 : NuU qa8 qa37 9 (qf 10).toInt z33 := e55
        have hwr := hwr.tr2 (c' := p1.toInt) (NuU.w (c := p1.toInt) e55) (by omega) (by omega)
        replace hw : pw D A s.heap H locs [wd_Mpr cs q qr (fun k => if k = 0 then (some h) else none) qf36 qa37 qg, wdP cs h r g tf ta pf na ma wa cf ca ef ea xf xa] := hw
        exact px_vret S hr hlk hAe hw (Nat.le_of_ble_eq_true rfl) (Nat.le_of_ble_eq_true rfl) (⟨qf36, qa37, rfl, (show ChO p1.toInt (qf36 2).toInt (qf 2).toInt (qf36 10).toInt (qf 10).toInt from (Or.inr ⟨by omega, Or.inl ⟨by omega, by omega⟩⟩)), (show (qf36 1).toInt = (qf 1).toInt from by first | exact e41 | omega), (show (qf36 4).toInt = (qf 4).toInt from by first | exact e44 | omega), (show (qf36 5).toInt = (qf 5).toInt from by first | exact e45 | omega), (show (qf36 6).toInt = (qf 6).toInt from by first | exact e46 | omega), (show (qf36 7).toInt = (qf 7).toInt from by first | exact e47 | omega), (show (qf36 11).toInt = (qf 11).toInt from by first | exact e48 | omega), (show (qf36 12).toInt = (qf 12).toInt from by first | exact e49 | omega), (show (qf36 13).toInt = (qf 13).toInt from by first | exact e50 | omega), (show (qf36 14).toInt = (qf 14).toInt from by first | exact e51 | omega), (show (qf36 21).toInt = (qf 21).toInt from by first | exact e52 | omega), (show (qf36 23).toInt = (qf 23).toInt from by first | exact e53 | omega), (show (qf36 24).toInt = (qf 24).toInt from by first | exact e54 | omega), (show WrU qa qa37 (qf 10).toInt p1.toInt from hwr)⟩) d_Mpr_move_63
    · have nc4 : z3.toInt = (1 : Int) := (i_eq (x := z3) (y := 1)).mp c4
      refine lv_iload S.x S.b d_Mpr_move_26 (lv_at hl 0 rfl) ?_
      refine lv_iconst (v := 1) S.x S.b d_Mpr_move_28 (by decide) ?_
      refine lv_iadd S.x S.b d_Mpr_move_29 ?_
      refine lv_topi (fun z56 ez56 => ?_)
      have tz56 : z56.toInt = (z2.toInt + (1 : Int) + 2147483648) % 4294967296 - 2147483648 := by rw [ez56]; exact i_add z2 1
      have lz56 := Int32.le_toInt z56
      have uz56 := Int32.toInt_lt z56
      try replace tz56 : z56.toInt = z2.toInt + (1 : Int) := by omega
      refine lv_goto (tgt := 37) S.x S.b d_Mpr_move_30 (by decide) ?_
      refine px_calli (pr := []) (px_runV (As := [.int p0, .int z56]) (rest := [.int p1, .ref (qr 8)]) S (c_mr_stored l D cs nf q qr qg qf qa h r g tf ta pf na ma wa cf ca ef ea xf xa p0 z56  (show 0 ≤ p0.toInt from by first | exact g0 | omega) (show p0.toInt < 1100 from by first | exact g1 | omega) _) hT (pr := []) (pcs := [wd_Mpr cs q qr (fun k => if k = 0 then (some h) else none) qf qa qg, wdP cs h r g tf ta pf na ma wa cf ca ef ea xf xa]) hw (oX_call (P := (fun A U H => (oP A g U H))) (pr := []) oG_P hw hA hP) (px_recv hT hw 0 0 rfl rfl rfl) m14_127 m14_124 m14_126 ms_16_12 m1_22 q_Mpr_stored ⟨Nat.le_of_ble_eq_true rfl, Nat.le_of_ble_eq_true rfl⟩ hl.1 rfl (Nat.le_of_ble_eq_true rfl) d_Mpr_move_37 ⟨Nat.le_of_ble_eq_true rfl, Nat.le_of_ble_eq_true rfl⟩) hw hA (fun v58 p57 H locs hp57 hw => ?_)
      subst hp57
      replace hw : pw D A s.heap H locs [wd_Mpr cs q qr (fun k => if k = 0 then (some h) else none) qf qa qg, wdP cs h r g tf ta pf na ma wa cf ca ef ea xf xa] := hw
      have lv58 := Int32.le_toInt v58
      have uv58 := Int32.toInt_lt v58
      refine px_iast S hT hw 0 1 (n := 37000) (f := (qa 8)) (x := p1) (y := v58) rfl (ga_Mpr_8 _ _ _ _ _ _ _) (vp_in_iff.mpr (by constructor <;> omega)) d_Mpr_move_40 (w' := wd_Mpr cs q qr (fun k => if k = 0 then (some h) else none) qf (va_up qa 8 (upd (qa 8) p1.toNatClampNeg v58)) qg) (ps' := [wd_Mpr cs q qr (fun k => if k = 0 then (some h) else none) qf (va_up qa 8 (upd (qa 8) p1.toNatClampNeg v58)) qg, wdP cs h r g tf ta pf na ma wa cf ca ef ea xf xa]) (sa_Mpr_8 _ _ _ _ _ _ _ _) rfl (fun H locs hw => ?_)
      obtain ⟨qa59, hu_qa59⟩ : ∃ y : Nat → Nat → Int32, y = va_up qa 8 (upd (qa 8) p1.toNatClampNeg v58) := ⟨_, rfl⟩; have hw : pw D A s.heap _ _ [wd_Mpr cs q qr (fun k => if k = 0 then (some h) else none) qf qa59 qg, wdP cs h r g tf ta pf na ma wa cf ca ef ea xf xa] := (by rw [hu_qa59]; exact hw); have hwr := hwr.tr2 (NuU.c (n := (qf 10).toInt) (nuu_mk (n := p1.toInt) hu_qa59 (by omega) rfl)) (by omega) (by omega)
      refine lv_aload_n S.x S.b d_Mpr_move_41 rfl (lv_at hl 1 rfl) ?_
      refine lv_iload_n S.x S.b d_Mpr_move_42 rfl (lv_at hl 4 rfl) ?_
      refine lv_iconst (v := 2) S.x S.b d_Mpr_move_43 (by decide) ?_
      refine lv_iand S.x S.b d_Mpr_move_44 ?_
      refine lv_topi (fun z60 ez60 => ?_)
      have lz60 := Int32.le_toInt z60
      have uz60 := Int32.toInt_lt z60
      refine lv_iconst (v := 2) S.x S.b d_Mpr_move_45 (by decide) ?_
      refine lv_icmp_ne (tgt := 58) S.x S.b d_Mpr_move_46 (by decide) (fun c61 => ?_) (fun c61 => ?_)
      · have nc61 : ¬ z60.toInt = (2 : Int) := mt (i_eq (x := z60) (y := 2)).mpr c61
        refine lv_iload S.x S.b d_Mpr_move_58 (lv_at hl 0 rfl) ?_
        refine px_callv (pr := []) (px_runV (As := [.int z2]) (rest := []) S (c_mr_give l D cs nf q qr qg qf qa59 h r g tf ta pf na ma wa cf ca ef ea xf xa z2  (show 0 ≤ (qf 10).toInt from by first | exact g4 | omega) (show (qf 10).toInt < 62500 from by first | exact oz_7621ce4cd5 g5 | omega) _) hT (pr := []) (pcs := [wd_Mpr cs q qr (fun k => if k = 0 then (some h) else none) qf qa59 qg, wdP cs h r g tf ta pf na ma wa cf ca ef ea xf xa]) hw (oX_call (P := (fun A U H => (oP A g U H))) (pr := []) oG_P hw hA hP) (px_recv hT hw 0 0 rfl rfl rfl) m13_161 m13_158 m13_159 m13_160 m1_22 q_Mpr_give ⟨Nat.le_of_ble_eq_true rfl, Nat.le_of_ble_eq_true rfl⟩ hl.1 rfl (Nat.le_of_ble_eq_true rfl) d_Mpr_move_60 ⟨Nat.le_of_ble_eq_true rfl, Nat.le_of_ble_eq_true rfl⟩) hw hA (fun p66 H locs hp66 hw => ?_)
        obtain ⟨qf64, qa65, rfl, e68, e69, e70, e71, e72, e73, e74, e75, e76, e77, e78, e79, e80, e81, e82, e83⟩ := hp66
        replace e68 : (qf64 10).toInt = (qf 10).toInt + 1 := e68
        replace e69 : (qf64 1).toInt = (qf 1).toInt := e69
        replace e70 : (qf64 2).toInt = (qf 2).toInt := e70
        replace e71 : (qf64 3).toInt = (qf 3).toInt := e71
        replace e72 : (qf64 4).toInt = (qf 4).toInt := e72
        replace e73 : (qf64 5).toInt = (qf 5).toInt := e73
        replace e74 : (qf64 6).toInt = (qf 6).toInt := e74
        replace e75 : (qf64 7).toInt = (qf 7).toInt := e75
        replace e76 : (qf64 11).toInt = (qf 11).toInt := e76
        replace e77 : (qf64 12).toInt = (qf 12).toInt := e77
        replace e78 : (qf64 13).toInt = (qf 13).toInt := e78
        replace e79 : (qf64 14).toInt = (qf 14).toInt := e79
        replace e80 : (qf64 21).toInt = (qf 21).toInt := e80
        replace e81 : (qf64 23).toInt = (qf 23).toInt := e81
        replace e82 : (qf64 24).toInt = (qf 24).toInt := e82
        replace e83 : NuU qa59 qa65 9 (qf 10).toInt z2 := e83
        have hwr := hwr.tr2 (c' := p1.toInt) (NuU.w (c := p1.toInt) e83) (by omega) (by omega)
        replace hw : pw D A s.heap H locs [wd_Mpr cs q qr (fun k => if k = 0 then (some h) else none) qf64 qa65 qg, wdP cs h r g tf ta pf na ma wa cf ca ef ea xf xa] := hw
        exact px_vret S hr hlk hAe hw (Nat.le_of_ble_eq_true rfl) (Nat.le_of_ble_eq_true rfl) (⟨qf64, qa65, rfl, (show ChO p1.toInt (qf64 2).toInt (qf 2).toInt (qf64 10).toInt (qf 10).toInt from (Or.inr ⟨by omega, Or.inl ⟨by omega, by omega⟩⟩)), (show (qf64 1).toInt = (qf 1).toInt from by first | exact e69 | omega), (show (qf64 4).toInt = (qf 4).toInt from by first | exact e72 | omega), (show (qf64 5).toInt = (qf 5).toInt from by first | exact e73 | omega), (show (qf64 6).toInt = (qf 6).toInt from by first | exact e74 | omega), (show (qf64 7).toInt = (qf 7).toInt from by first | exact e75 | omega), (show (qf64 11).toInt = (qf 11).toInt from by first | exact e76 | omega), (show (qf64 12).toInt = (qf 12).toInt from by first | exact e77 | omega), (show (qf64 13).toInt = (qf 13).toInt from by first | exact e78 | omega), (show (qf64 14).toInt = (qf 14).toInt from by first | exact e79 | omega), (show (qf64 21).toInt = (qf 21).toInt from by first | exact e80 | omega), (show (qf64 23).toInt = (qf 23).toInt from by first | exact e81 | omega), (show (qf64 24).toInt = (qf 24).toInt from by first | exact e82 | omega), (show WrU qa qa65 (qf 10).toInt p1.toInt from hwr)⟩) d_Mpr_move_63
      · have nc61 : z60.toInt = (2 : Int) := (i_eq (x := z60) (y := 2)).mp c61
        refine lv_aload_n S.x S.b d_Mpr_move_49 rfl (lv_at hl 1 rfl) ?_
        refine px_get S k_Mpr hT hw 0 0 8 (v := .ref (qr 8)) rfl rfl rfl (by decide) m10_236 d_Mpr_move_50 ?_
        refine lv_iload_n S.x S.b d_Mpr_move_53 rfl (lv_at hl 3 rfl) ?_
        refine px_iald S hT hw 0 1 (n := 37000) (f := (qa59 8)) rfl (ga_Mpr_8 _ _ _ _ _ _ _) (x := p1) (vp_in_iff.mpr (by first | exact oz_d1e68178d5 nc1 g3 | (constructor <;> omega))) d_Mpr_move_54 ?_
        refine lv_topi (fun z84 ez84 => ?_)
        have lz84 := Int32.le_toInt z84
        have uz84 := Int32.toInt_lt z84
        refine lv_goto (tgt := 60) S.x S.b d_Mpr_move_55 (by decide) ?_
        refine px_callv (pr := []) (px_runV (As := [.int z84]) (rest := []) S (c_mr_give l D cs nf q qr qg qf qa59 h r g tf ta pf na ma wa cf ca ef ea xf xa z84  (show 0 ≤ (qf 10).toInt from by first | exact g4 | omega) (show (qf 10).toInt < 62500 from by first | exact oz_7621ce4cd5 g5 | omega) _) hT (pr := []) (pcs := [wd_Mpr cs q qr (fun k => if k = 0 then (some h) else none) qf qa59 qg, wdP cs h r g tf ta pf na ma wa cf ca ef ea xf xa]) hw (oX_call (P := (fun A U H => (oP A g U H))) (pr := []) oG_P hw hA hP) (px_recv hT hw 0 0 rfl rfl rfl) m13_161 m13_158 m13_159 m13_160 m1_22 q_Mpr_give ⟨Nat.le_of_ble_eq_true rfl, Nat.le_of_ble_eq_true rfl⟩ hl.1 rfl (Nat.le_of_ble_eq_true rfl) d_Mpr_move_60 ⟨Nat.le_of_ble_eq_true rfl, Nat.le_of_ble_eq_true rfl⟩) hw hA (fun p89 H locs hp89 hw => ?_)
        obtain ⟨qf87, qa88, rfl, e91, e92, e93, e94, e95, e96, e97, e98, e99, e100, e101, e102, e103, e104, e105, e106⟩ := hp89
        replace e91 : (qf87 10).toInt = (qf 10).toInt + 1 := e91
        replace e92 : (qf87 1).toInt = (qf 1).toInt := e92
        replace e93 : (qf87 2).toInt = (qf 2).toInt := e93
        replace e94 : (qf87 3).toInt = (qf 3).toInt := e94
        replace e95 : (qf87 4).toInt = (qf 4).toInt := e95
        replace e96 : (qf87 5).toInt = (qf 5).toInt := e96
        replace e97 : (qf87 6).toInt = (qf 6).toInt := e97
        replace e98 : (qf87 7).toInt = (qf 7).toInt := e98
        replace e99 : (qf87 11).toInt = (qf 11).toInt := e99
        replace e100 : (qf87 12).toInt = (qf 12).toInt := e100
        replace e101 : (qf87 13).toInt = (qf 13).toInt := e101
        replace e102 : (qf87 14).toInt = (qf 14).toInt := e102
        replace e103 : (qf87 21).toInt = (qf 21).toInt := e103
        replace e104 : (qf87 23).toInt = (qf 23).toInt := e104
        replace e105 : (qf87 24).toInt = (qf 24).toInt := e105
        replace e106 : NuU qa59 qa88 9 (qf 10).toInt z84 := e106
        have hwr := hwr.tr2 (c' := p1.toInt) (NuU.w (c := p1.toInt) e106) (by omega) (by omega)
        replace hw : pw D A s.heap H locs [wd_Mpr cs q qr (fun k => if k = 0 then (some h) else none) qf87 qa88 qg, wdP cs h r g tf ta pf na ma wa cf ca ef ea xf xa] := hw
        exact px_vret S hr hlk hAe hw (Nat.le_of_ble_eq_true rfl) (Nat.le_of_ble_eq_true rfl) (⟨qf87, qa88, rfl, (show ChO p1.toInt (qf87 2).toInt (qf 2).toInt (qf87 10).toInt (qf 10).toInt from (Or.inr ⟨by omega, Or.inl ⟨by omega, by omega⟩⟩)), (show (qf87 1).toInt = (qf 1).toInt from by first | exact e92 | omega), (show (qf87 4).toInt = (qf 4).toInt from by first | exact e95 | omega), (show (qf87 5).toInt = (qf 5).toInt from by first | exact e96 | omega), (show (qf87 6).toInt = (qf 6).toInt from by first | exact e97 | omega), (show (qf87 7).toInt = (qf 7).toInt from by first | exact e98 | omega), (show (qf87 11).toInt = (qf 11).toInt from by first | exact e99 | omega), (show (qf87 12).toInt = (qf 12).toInt from by first | exact e100 | omega), (show (qf87 13).toInt = (qf 13).toInt from by first | exact e101 | omega), (show (qf87 14).toInt = (qf 14).toInt from by first | exact e102 | omega), (show (qf87 21).toInt = (qf 21).toInt from by first | exact e103 | omega), (show (qf87 23).toInt = (qf 23).toInt from by first | exact e104 | omega), (show (qf87 24).toInt = (qf 24).toInt from by first | exact e105 | omega), (show WrU qa qa88 (qf 10).toInt p1.toInt from hwr)⟩) d_Mpr_move_63
