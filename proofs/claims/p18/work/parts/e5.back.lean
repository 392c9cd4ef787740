theorem m11_6 : Cond.fieldLink "HomeSystemModel$Process" 77 "HomeSystemModel$Process" "calls" "I" ∈ AL := AL_11 (List.mem_of_getElem? (i := 6) rfl) rfl
theorem m10_10n : Cond.fieldLinkNest "HomeSystemModel$Process" 218 "HomeSystemModel$Program" "ops" "[I" "HomeSystemModel" ∈ tables_1 := by unfold tables_1; exact List.mem_append_right _ (List.mem_append_right _ (List.mem_append_right _ (List.mem_append_right _ (List.mem_append_right _ (List.mem_append_right _ (List.mem_append_right _ (List.mem_append_right _ (List.mem_append_right _ (List.mem_append_left _ (List.mem_of_getElem? (i := 10) rfl))))))))))
theorem m10_29n : Cond.fieldLinkNest "HomeSystemModel$Process" 206 "HomeSystemModel$Program" "functionNode" "[I" "HomeSystemModel" ∈ tables_1 := by unfold tables_1; exact List.mem_append_right _ (List.mem_append_right _ (List.mem_append_right _ (List.mem_append_right _ (List.mem_append_right _ (List.mem_append_right _ (List.mem_append_right _ (List.mem_append_right _ (List.mem_append_right _ (List.mem_append_left _ (List.mem_of_getElem? (i := 29) rfl))))))))))
theorem m10_231 : Cond.fieldLink "HomeSystemModel$Process" 91 "HomeSystemModel$Process" "stack" "I" ∈ AL := AL_10 (List.mem_of_getElem? (i := 231) rfl) rfl
theorem m10_31n : Cond.fieldLinkNest "HomeSystemModel$Process" 194 "HomeSystemModel$Program" "frames" "[I" "HomeSystemModel" ∈ tables_1 := by unfold tables_1; exact List.mem_append_right _ (List.mem_append_right _ (List.mem_append_right _ (List.mem_append_right _ (List.mem_append_right _ (List.mem_append_right _ (List.mem_append_right _ (List.mem_append_right _ (List.mem_append_right _ (List.mem_append_left _ (List.mem_of_getElem? (i := 31) rfl))))))))))
theorem m11_5 : Cond.fieldLink "HomeSystemModel$Process" 102 "HomeSystemModel$Process" "top" "I" ∈ AL := AL_11 (List.mem_of_getElem? (i := 5) rfl) rfl
theorem m11_2 : Cond.fieldLink "HomeSystemModel$Process" 95 "HomeSystemModel$Process" "at" "I" ∈ AL := AL_11 (List.mem_of_getElem? (i := 2) rfl) rfl
theorem RuZ.tq {X : Cx} {K : KP} {ca qa : Nat → Nat → Int32} {tc nf st0 m pc found base top st wk R m1 pc1 found1 base1 top1 st1 wk1 : Int} (h : RuZ X K ca qa tc nf st0 m pc found base top st wk R) (e1 : m = m1) (e2 : pc = pc1) (e3 : found = found1) (e4 : base = base1) (e5 : top = top1) (e6 : st = st1) (e7 : wk = wk1) : RuZ X K ca qa tc nf st0 m1 pc1 found1 base1 top1 st1 wk1 R := by
  subst e1; subst e2; subst e3; subst e4; subst e5; subst e6; subst e7; exact h
abbrev b_Mpr_giveBack : ByteArray := prog_15_method_21_code
def y_Mpr_giveBack : MethodName := ⟨"HomeSystemModel$Process", "giveBack", "()V"⟩
theorem d_Mpr_giveBack_0 : decode b_Mpr_giveBack 0 = .ok (.aload_n 0, 1) := by decide +kernel
theorem d_Mpr_giveBack_1 : decode b_Mpr_giveBack 1 = .ok (.dup, 1) := by decide +kernel
theorem d_Mpr_giveBack_2 : decode b_Mpr_giveBack 2 = .ok (.getfield 77, 3) := by decide +kernel
theorem d_Mpr_giveBack_5 : decode b_Mpr_giveBack 5 = .ok (.iconst 1, 1) := by decide +kernel
theorem d_Mpr_giveBack_6 : decode b_Mpr_giveBack 6 = .ok (.isub, 1) := by decide +kernel
theorem d_Mpr_giveBack_7 : decode b_Mpr_giveBack 7 = .ok (.putfield 77, 3) := by decide +kernel
theorem d_Mpr_giveBack_10 : decode b_Mpr_giveBack 10 = .ok (.aload_n 0, 1) := by decide +kernel
theorem d_Mpr_giveBack_11 : decode b_Mpr_giveBack 11 = .ok (.getfield 29, 3) := by decide +kernel
theorem d_Mpr_giveBack_14 : decode b_Mpr_giveBack 14 = .ok (.aload_n 0, 1) := by decide +kernel
theorem d_Mpr_giveBack_15 : decode b_Mpr_giveBack 15 = .ok (.getfield 77, 3) := by decide +kernel
theorem d_Mpr_giveBack_18 : decode b_Mpr_giveBack 18 = .ok (.iaload, 1) := by decide +kernel
theorem d_Mpr_giveBack_19 : decode b_Mpr_giveBack 19 = .ok (.istore_n 1, 1) := by decide +kernel
theorem d_Mpr_giveBack_20 : decode b_Mpr_giveBack 20 = .ok (.aload_n 0, 1) := by decide +kernel
theorem d_Mpr_giveBack_21 : decode b_Mpr_giveBack 21 = .ok (.invokevirtual 141, 3) := by decide +kernel
theorem d_Mpr_giveBack_24 : decode b_Mpr_giveBack 24 = .ok (.istore_n 2, 1) := by decide +kernel
theorem d_Mpr_giveBack_25 : decode b_Mpr_giveBack 25 = .ok (.aload_n 0, 1) := by decide +kernel
theorem d_Mpr_giveBack_26 : decode b_Mpr_giveBack 26 = .ok (.getfield 52, 3) := by decide +kernel
theorem d_Mpr_giveBack_29 : decode b_Mpr_giveBack 29 = .ok (.getfield 218, 3) := by decide +kernel
theorem d_Mpr_giveBack_32 : decode b_Mpr_giveBack 32 = .ok (.aload_n 0, 1) := by decide +kernel
theorem d_Mpr_giveBack_33 : decode b_Mpr_giveBack 33 = .ok (.getfield 52, 3) := by decide +kernel
theorem d_Mpr_giveBack_36 : decode b_Mpr_giveBack 36 = .ok (.getfield 206, 3) := by decide +kernel
theorem d_Mpr_giveBack_39 : decode b_Mpr_giveBack 39 = .ok (.iload_n 1, 1) := by decide +kernel
theorem d_Mpr_giveBack_40 : decode b_Mpr_giveBack 40 = .ok (.iaload, 1) := by decide +kernel
theorem d_Mpr_giveBack_41 : decode b_Mpr_giveBack 41 = .ok (.iaload, 1) := by decide +kernel
theorem d_Mpr_giveBack_42 : decode b_Mpr_giveBack 42 = .ok (.iconst 1, 1) := by decide +kernel
theorem d_Mpr_giveBack_43 : decode b_Mpr_giveBack 43 = .ok (.if_icmp .ne 11, 3) := by decide +kernel
theorem d_Mpr_giveBack_46 : decode b_Mpr_giveBack 46 = .ok (.iload_n 2, 1) := by decide +kernel
theorem d_Mpr_giveBack_47 : decode b_Mpr_giveBack 47 = .ok (.sipush 255, 3) := by decide +kernel
theorem d_Mpr_giveBack_50 : decode b_Mpr_giveBack 50 = .ok (.iand, 1) := by decide +kernel
theorem d_Mpr_giveBack_51 : decode b_Mpr_giveBack 51 = .ok (.goto 4, 3) := by decide +kernel
theorem d_Mpr_giveBack_54 : decode b_Mpr_giveBack 54 = .ok (.iload_n 2, 1) := by decide +kernel
theorem d_Mpr_giveBack_55 : decode b_Mpr_giveBack 55 = .ok (.istore_n 2, 1) := by decide +kernel
theorem d_Mpr_giveBack_56 : decode b_Mpr_giveBack 56 = .ok (.aload_n 0, 1) := by decide +kernel
theorem d_Mpr_giveBack_57 : decode b_Mpr_giveBack 57 = .ok (.aload_n 0, 1) := by decide +kernel
theorem d_Mpr_giveBack_58 : decode b_Mpr_giveBack 58 = .ok (.getfield 91, 3) := by decide +kernel
theorem d_Mpr_giveBack_61 : decode b_Mpr_giveBack 61 = .ok (.aload_n 0, 1) := by decide +kernel
theorem d_Mpr_giveBack_62 : decode b_Mpr_giveBack 62 = .ok (.getfield 52, 3) := by decide +kernel
theorem d_Mpr_giveBack_65 : decode b_Mpr_giveBack 65 = .ok (.getfield 194, 3) := by decide +kernel
theorem d_Mpr_giveBack_68 : decode b_Mpr_giveBack 68 = .ok (.iload_n 1, 1) := by decide +kernel
theorem d_Mpr_giveBack_69 : decode b_Mpr_giveBack 69 = .ok (.iaload, 1) := by decide +kernel
theorem d_Mpr_giveBack_70 : decode b_Mpr_giveBack 70 = .ok (.iadd, 1) := by decide +kernel
theorem d_Mpr_giveBack_71 : decode b_Mpr_giveBack 71 = .ok (.putfield 91, 3) := by decide +kernel
theorem d_Mpr_giveBack_74 : decode b_Mpr_giveBack 74 = .ok (.aload_n 0, 1) := by decide +kernel
theorem d_Mpr_giveBack_75 : decode b_Mpr_giveBack 75 = .ok (.aload_n 0, 1) := by decide +kernel
theorem d_Mpr_giveBack_76 : decode b_Mpr_giveBack 76 = .ok (.getfield 23, 3) := by decide +kernel
theorem d_Mpr_giveBack_79 : decode b_Mpr_giveBack 79 = .ok (.aload_n 0, 1) := by decide +kernel
theorem d_Mpr_giveBack_80 : decode b_Mpr_giveBack 80 = .ok (.getfield 77, 3) := by decide +kernel
theorem d_Mpr_giveBack_83 : decode b_Mpr_giveBack 83 = .ok (.iaload, 1) := by decide +kernel
theorem d_Mpr_giveBack_84 : decode b_Mpr_giveBack 84 = .ok (.putfield 80, 3) := by decide +kernel
theorem d_Mpr_giveBack_87 : decode b_Mpr_giveBack 87 = .ok (.aload_n 0, 1) := by decide +kernel
theorem d_Mpr_giveBack_88 : decode b_Mpr_giveBack 88 = .ok (.aload_n 0, 1) := by decide +kernel
theorem d_Mpr_giveBack_89 : decode b_Mpr_giveBack 89 = .ok (.getfield 26, 3) := by decide +kernel
theorem d_Mpr_giveBack_92 : decode b_Mpr_giveBack 92 = .ok (.aload_n 0, 1) := by decide +kernel
theorem d_Mpr_giveBack_93 : decode b_Mpr_giveBack 93 = .ok (.getfield 77, 3) := by decide +kernel
theorem d_Mpr_giveBack_96 : decode b_Mpr_giveBack 96 = .ok (.iaload, 1) := by decide +kernel
theorem d_Mpr_giveBack_97 : decode b_Mpr_giveBack 97 = .ok (.putfield 102, 3) := by decide +kernel
theorem d_Mpr_giveBack_100 : decode b_Mpr_giveBack 100 = .ok (.aload_n 0, 1) := by decide +kernel
theorem d_Mpr_giveBack_101 : decode b_Mpr_giveBack 101 = .ok (.aload_n 0, 1) := by decide +kernel
theorem d_Mpr_giveBack_102 : decode b_Mpr_giveBack 102 = .ok (.getfield 20, 3) := by decide +kernel
theorem d_Mpr_giveBack_105 : decode b_Mpr_giveBack 105 = .ok (.aload_n 0, 1) := by decide +kernel
theorem d_Mpr_giveBack_106 : decode b_Mpr_giveBack 106 = .ok (.getfield 77, 3) := by decide +kernel
theorem d_Mpr_giveBack_109 : decode b_Mpr_giveBack 109 = .ok (.iaload, 1) := by decide +kernel
theorem d_Mpr_giveBack_110 : decode b_Mpr_giveBack 110 = .ok (.putfield 95, 3) := by decide +kernel
theorem d_Mpr_giveBack_113 : decode b_Mpr_giveBack 113 = .ok (.aload_n 0, 1) := by decide +kernel
theorem d_Mpr_giveBack_114 : decode b_Mpr_giveBack 114 = .ok (.getfield 77, 3) := by decide +kernel
theorem d_Mpr_giveBack_117 : decode b_Mpr_giveBack 117 = .ok (.ifCond .ne 12, 3) := by decide +kernel
theorem d_Mpr_giveBack_120 : decode b_Mpr_giveBack 120 = .ok (.aload_n 0, 1) := by decide +kernel
theorem d_Mpr_giveBack_121 : decode b_Mpr_giveBack 121 = .ok (.iconst 0, 1) := by decide +kernel
theorem d_Mpr_giveBack_122 : decode b_Mpr_giveBack 122 = .ok (.iload_n 2, 1) := by decide +kernel
theorem d_Mpr_giveBack_123 : decode b_Mpr_giveBack 123 = .ok (.invokevirtual 134, 3) := by decide +kernel
theorem d_Mpr_giveBack_126 : decode b_Mpr_giveBack 126 = .ok (.goto 8, 3) := by decide +kernel
theorem d_Mpr_giveBack_129 : decode b_Mpr_giveBack 129 = .ok (.aload_n 0, 1) := by decide +kernel
theorem d_Mpr_giveBack_130 : decode b_Mpr_giveBack 130 = .ok (.iload_n 2, 1) := by decide +kernel
theorem d_Mpr_giveBack_131 : decode b_Mpr_giveBack 131 = .ok (.invokevirtual 105, 3) := by decide +kernel
theorem d_Mpr_giveBack_134 : decode b_Mpr_giveBack 134 = .ok (.return_, 1) := by decide +kernel
theorem q_Mpr_giveBack : px_y y_Mpr_giveBack 0 := by unfold px_y; decide +kernel
set_option maxHeartbeats 4000000 in
set_option maxRecDepth 100000 in
theorem c_mr_giveBack (l : Launch) (D : va_G) (cs : Nat → ClassId) (X9 : Cx) (K9 : KP) (st9 : Int) (f9 : Int) (S9 : List Nat) (v8 : Nat) (P9 : Int → Prop) (nb9 : Int) (q : Nat) (qr : Nat → Nat) (qg : Nat → Nat → Option Nat) (qf : Nat → Int32) (qa : Nat → Nat → Int32) (h : Nat) (r : Nat → Nat) (g : Nat → Nat → Option Nat) (tf : Nat → Int32) (ta : Nat → Nat → Int32) (pf : Nat → Int32) (na : Nat → Nat → Int32) (ma : Nat → Nat → Int32) (wa : Nat → Nat → Int32) (cf : Nat → Int32) (ca : Nat → Nat → Int32) (ef : Nat → Int32) (ea : Nat → Nat → Int32) (xf : Nat → Int32) (xa : Nat → Nat → Int32)  (g0 : (qf 2).toInt = -2) (hmd : MdI X9 K9 ca na ma (ea 61) (ea 62) (ea 63) qa (cf 55).toInt (cf 38).toInt (ef 60).toInt st9 (qf 14).toInt ((qf 11).toInt - 1) (qf 10).toInt (qf 12).toInt (qf 13).toInt (qf 5).toInt (qf 4).toInt f9 S9 v8 P9 nb9) (hft : FnT (tf 6).toInt na ca (cf 38).toInt) (ho18 : S9 = [0] ∧ 0 ≤ f9) : MetV l y_Mpr_giveBack b_Mpr_giveBack 3 D cs 2 60 (0) (0) [.ref q] [wd_Mpr cs q qr (fun k => if k = 0 then (some h) else none) qf qa qg, wdP cs h r g tf ta pf na ma wa cf ca ef ea xf xa] (oX (fun A U H => (oP A g U H) ∧ (oLW A U H)) [wd_Mpr cs q qr (fun k => if k = 0 then (some h) else none) qf qa qg, wdP cs h r g tf ta pf na ma wa cf ca ef ea xf xa]) (fun ps => ∃ (qf' : Nat → Int32) (qa' : Nat → Nat → Int32), (ps = [wd_Mpr cs q qr (fun k => if k = 0 then (some h) else none) qf' qa' qg, wdP cs h r g tf ta pf na ma wa cf ca ef ea xf xa]) ∧ ((qf' 1).toInt = (qf 1).toInt) ∧ ((qf' 6).toInt = (qf 6).toInt) ∧ ((qf' 7).toInt = (qf 7).toInt) ∧ ((qf' 21).toInt = (qf 21).toInt) ∧ ((qf' 23).toInt = (qf 23).toInt) ∧ ((qf' 24).toInt = (qf 24).toInt) ∧ (RzO (qf' 2).toInt (RuZ X9 K9 ca qa' (cf 55).toInt (cf 38).toInt st9 (qf' 14).toInt (qf' 11).toInt (qf' 10).toInt (qf' 12).toInt (qf' 13).toInt (qf' 5).toInt (qf' 4).toInt (rkN (qf 4).toInt (qf 14).toInt (v8 : Int) ((qf 11).toInt - 1))))) := by
  refine px_enter (by decide) (Nat.le_of_ble_eq_true rfl) ?_
  intro p e s m below meth c A ls hAe S hr hlk hnm hA hT hX hw hl
  replace hl : lv_has ls 3 [(0, .ref q)] := hl
  have cst0 : (0 : Int32).toInt = 0 := rfl
  have cst1 : (1 : Int32).toInt = 1 := rfl
  have cst255 : (255 : Int32).toInt = 255 := rfl
  have hX : (fun A U H => (oP A g U H) ∧ (oLW A U H)) A s s.heap := by rw [hAe]; exact hX
  obtain ⟨hP, hSh⟩ := hX
  have hZ := hP.1
  have hF0 := hP.2.1
  have hnm := hmd.num
  have hst := hmd.2.2.1
  have hlc := hmd.2.2.2.1
  have hq9 := hmd.2.2.2.2
  have hm1 := hmd.m1 ho18.2
  have hS1 : (S9.length : Int) = 1 := (by rw [ho18.1]; rfl)
  refine lv_aload_n S.x S.b d_Mpr_giveBack_0 rfl (lv_at hl 0 rfl) ?_
  refine lv_dup S.x S.b d_Mpr_giveBack_1 rfl ?_
  refine px_get S k_Mpr hT hw 0 0 14 (v := .int (qf 14)) rfl rfl rfl (by decide) m11_6 d_Mpr_giveBack_2 ?_
  refine lv_iconst (v := 1) S.x S.b d_Mpr_giveBack_5 (by decide) ?_
  refine lv_isub S.x S.b d_Mpr_giveBack_6 ?_
  have lr1 := Int32.le_toInt (qf 14)
  have ur1 := Int32.toInt_lt (qf 14)
  refine lv_topi (fun z2 ez2 => ?_)
  have tz2 : z2.toInt = ((qf 14).toInt - (1 : Int) + 2147483648) % 4294967296 - 2147483648 := by rw [ez2]; exact i_sub (qf 14) 1
  have lz2 := Int32.le_toInt z2
  have uz2 := Int32.toInt_lt z2
  try replace tz2 : z2.toInt = (qf 14).toInt - (1 : Int) := by omega
  refine px_put S k_Mpr hT hw 0 0 14 rfl rfl (by decide) m11_6 rfl rfl rfl (Nat.le_of_ble_eq_true rfl) d_Mpr_giveBack_7 (w' := wd_Mpr cs q qr (fun k => if k = 0 then (some h) else none) (upd qf 14 z2) qa qg) (ps' := [wd_Mpr cs q qr (fun k => if k = 0 then (some h) else none) (upd qf 14 z2) qa qg, wdP cs h r g tf ta pf na ma wa cf ca ef ea xf xa]) rfl rfl (fun H locs hw => ?_)
  refine lv_aload_n S.x S.b d_Mpr_giveBack_10 rfl (lv_at hl 0 rfl) ?_
  refine px_get S k_Mpr hT hw 0 0 18 (v := .ref (qr 18)) rfl rfl rfl (by decide) m11_10 d_Mpr_giveBack_11 ?_
  refine lv_aload_n S.x S.b d_Mpr_giveBack_14 rfl (lv_at hl 0 rfl) ?_
  refine px_get S k_Mpr hT hw 0 0 14 (v := .int z2) rfl rfl rfl (by decide) m11_6 d_Mpr_giveBack_15 ?_
  refine px_iald S hT hw 0 6 (n := 132) (f := (qa 18)) rfl (ga_Mpr_18 _ _ _ _ _ _ _) (x := z2) (vp_in_iff.mpr (by constructor <;> omega)) d_Mpr_giveBack_18 ?_
  refine lv_topi (fun z3 ez3 => ?_)
  have lz3 := Int32.le_toInt z3
  have uz3 := Int32.toInt_lt z3
  have hz18 := at_k (n := ((qf 14).toInt - 1)) ez3 (by omega) (by omega); have hzi : z3.toInt = f9 := (by rw [hz18]; exact hm1.2.1); have hzc := cl_nat (x := z3) (by first | exact oz_f3ebed1ad0 hzi ho18.2 | omega); have hzn : z3.toNatClampNeg = f9.toNat := (by omega)
  refine lv_istore_n (lv' := [(1, .int z3), (0, .ref q)]) S.x S.b d_Mpr_giveBack_19 rfl hl (by decide) rfl (fun ls hl => ?_)
  refine lv_aload_n S.x S.b d_Mpr_giveBack_20 rfl (lv_at hl 1 rfl) ?_
  refine px_calli (pr := []) (px_runV (As := []) (rest := []) S (c_mr_take l D cs (0 : Int) q qr qg qa (upd qf 14 z2) h r g tf ta pf na ma wa cf ca ef ea xf xa   (show 1 ≤ (qf 10).toInt from by first | with_reducible rfl | with_reducible assumption | omega) (show (qf 10).toInt ≤ 62500 from by first | with_reducible rfl | with_reducible assumption | omega) _) hT (pr := []) (pcs := [wd_Mpr cs q qr (fun k => if k = 0 then (some h) else none) (upd qf 14 z2) qa qg, wdP cs h r g tf ta pf na ma wa cf ca ef ea xf xa]) hw (oX_call (P := (fun A U H => (oP A g U H))) (pr := []) oG_P hw hA hP) (px_recv hT hw 0 0 rfl rfl rfl) m14_123 m14_120 m14_121 m14_122 m1_22 q_Mpr_take ⟨Nat.le_of_ble_eq_true rfl, Nat.le_of_ble_eq_true rfl⟩ hl.1 rfl (Nat.le_of_ble_eq_true rfl) d_Mpr_giveBack_21 ⟨Nat.le_of_ble_eq_true rfl, Nat.le_of_ble_eq_true rfl⟩) hw hA (fun v7 p6 H locs hp6 hw => ?_)
  obtain ⟨qf5, rfl, e8, e9, e10, e11, e12, e13, e14, e15, e16, e17, e18, e19, e20, e21, e22⟩ := hp6
  replace e8 : (qf5 10).toInt = (qf 10).toInt - 1 := e8
  replace e9 : (qf5 1).toInt = (qf 1).toInt := e9
  replace e10 : (qf5 2).toInt = (qf 2).toInt := e10
  replace e11 : (qf5 3).toInt = (qf 3).toInt := e11
  replace e12 : (qf5 4).toInt = (qf 4).toInt := e12
  replace e13 : (qf5 5).toInt = (qf 5).toInt := e13
  replace e14 : (qf5 6).toInt = (qf 6).toInt := e14
  replace e15 : (qf5 7).toInt = (qf 7).toInt := e15
  replace e16 : (qf5 11).toInt = (qf 11).toInt := e16
  replace e17 : (qf5 12).toInt = (qf 12).toInt := e17
  replace e18 : (qf5 13).toInt = (qf 13).toInt := e18
  replace e19 : (qf5 14).toInt = z2.toInt := e19
  replace e20 : (qf5 21).toInt = (qf 21).toInt := e20
  replace e21 : (qf5 23).toInt = (qf 23).toInt := e21
  replace e22 : (qf5 24).toInt = (qf 24).toInt := e22
  replace hw : pw D A s.heap H locs [wd_Mpr cs q qr (fun k => if k = 0 then (some h) else none) qf5 qa qg, wdP cs h r g tf ta pf na ma wa cf ca ef ea xf xa] := hw
  have lv7 := Int32.le_toInt v7
  have uv7 := Int32.toInt_lt v7
  refine lv_istore_n (lv' := [(2, .int v7), (1, .int z3), (0, .ref q)]) S.x S.b d_Mpr_giveBack_24 rfl hl (by decide) rfl (fun ls hl => ?_)
  refine lv_aload_n S.x S.b d_Mpr_giveBack_25 rfl (lv_at hl 2 rfl) ?_
  refine px_get S k_Mpr hT hw 0 0 0 (v := .ref h) rfl rfl rfl (by decide) m10_221 d_Mpr_giveBack_26 ?_
  refine px_getN S k_Mpg hT hw 1 0 22 (v := .ref (r 22)) rfl rfl rfl (by decide) m10_10n d_Mpr_giveBack_29 ?_
  refine lv_aload_n S.x S.b d_Mpr_giveBack_32 rfl (lv_at hl 2 rfl) ?_
  refine px_get S k_Mpr hT hw 0 0 0 (v := .ref h) rfl rfl rfl (by decide) m10_221 d_Mpr_giveBack_33 ?_
  refine px_getN S k_Mpg hT hw 1 0 39 (v := .ref (r 39)) rfl rfl rfl (by decide) m10_29n d_Mpr_giveBack_36 ?_
  refine lv_iload_n S.x S.b d_Mpr_giveBack_39 rfl (lv_at hl 1 rfl) ?_
  refine px_iald S hT hw 1 26 (n := 260) (f := (ca 39)) rfl gp_39 (x := z3) (vp_in_iff.mpr (by constructor <;> omega)) d_Mpr_giveBack_40 ?_
  refine lv_topi (fun z23 ez23 => ?_)
  have lz23 := Int32.le_toInt z23
  have uz23 := Int32.toInt_lt z23
  have hf9 := FnT.at hft (by omega) (by omega) ez23
  refine px_iald S hT hw 1 18 (n := 2100) (f := (ma 22)) rfl gp_22 (x := z23) (vp_in_iff.mpr (by constructor <;> omega)) d_Mpr_giveBack_41 ?_
  refine lv_topi (fun z24 ez24 => ?_)
  have lz24 := Int32.le_toInt z24
  have uz24 := Int32.toInt_lt z24
  refine lv_iconst (v := 1) S.x S.b d_Mpr_giveBack_42 (by decide) ?_
  refine lv_icmp_ne (tgt := 54) S.x S.b d_Mpr_giveBack_43 (by decide) (fun c25 => ?_) (fun c25 => ?_)
  · have nc25 : ¬ z24.toInt = (1 : Int) := mt (i_eq (x := z24) (y := 1)).mpr c25
    refine lv_iload_n S.x S.b d_Mpr_giveBack_54 rfl (lv_at hl 0 rfl) ?_
    refine lv_istore_n (lv' := [(2, .int v7), (1, .int z3), (0, .ref q)]) S.x S.b d_Mpr_giveBack_55 rfl hl (by decide) rfl (fun ls hl => ?_)
    refine lv_aload_n S.x S.b d_Mpr_giveBack_56 rfl (lv_at hl 2 rfl) ?_
    refine lv_aload_n S.x S.b d_Mpr_giveBack_57 rfl (lv_at hl 2 rfl) ?_
    refine px_get S k_Mpr hT hw 0 0 5 (v := .int (qf5 5)) rfl rfl rfl (by decide) m10_231 d_Mpr_giveBack_58 ?_
    refine lv_aload_n S.x S.b d_Mpr_giveBack_61 rfl (lv_at hl 2 rfl) ?_
    refine px_get S k_Mpr hT hw 0 0 0 (v := .ref h) rfl rfl rfl (by decide) m10_221 d_Mpr_giveBack_62 ?_
    refine px_getN S k_Mpg hT hw 1 0 40 (v := .ref (r 40)) rfl rfl rfl (by decide) m10_31n d_Mpr_giveBack_65 ?_
    refine lv_iload_n S.x S.b d_Mpr_giveBack_68 rfl (lv_at hl 1 rfl) ?_
    refine px_iald S hT hw 1 27 (n := 260) (f := (ca 40)) rfl gp_40 (x := z3) (vp_in_iff.mpr (by constructor <;> omega)) d_Mpr_giveBack_69 ?_
    refine lv_topi (fun z26 ez26 => ?_)
    have lz26 := Int32.le_toInt z26
    have uz26 := Int32.toInt_lt z26
    have hz40 : z26.toInt = (ca 40 f9.toNat).toInt := (by rw [ez26, hzn])
    refine lv_iadd S.x S.b d_Mpr_giveBack_70 ?_
    have lr27 := Int32.le_toInt (qf5 5)
    have ur27 := Int32.toInt_lt (qf5 5)
    refine lv_topi (fun z28 ez28 => ?_)
    have tz28 : z28.toInt = ((qf5 5).toInt + z26.toInt + 2147483648) % 4294967296 - 2147483648 := by rw [ez28]; exact i_add (qf5 5) z26
    have lz28 := Int32.le_toInt z28
    have uz28 := Int32.toInt_lt z28
    try replace tz28 : z28.toInt = (qf5 5).toInt + z26.toInt := by omega
    refine px_put S k_Mpr hT hw 0 0 5 rfl rfl (by decide) m10_231 rfl rfl rfl (Nat.le_of_ble_eq_true rfl) d_Mpr_giveBack_71 (w' := wd_Mpr cs q qr (fun k => if k = 0 then (some h) else none) (upd qf5 5 z28) qa qg) (ps' := [wd_Mpr cs q qr (fun k => if k = 0 then (some h) else none) (upd qf5 5 z28) qa qg, wdP cs h r g tf ta pf na ma wa cf ca ef ea xf xa]) rfl rfl (fun H locs hw => ?_)
    refine lv_aload_n S.x S.b d_Mpr_giveBack_74 rfl (lv_at hl 2 rfl) ?_
    refine lv_aload_n S.x S.b d_Mpr_giveBack_75 rfl (lv_at hl 2 rfl) ?_
    refine px_get S k_Mpr hT hw 0 0 16 (v := .ref (qr 16)) rfl rfl rfl (by decide) m11_8 d_Mpr_giveBack_76 ?_
    refine lv_aload_n S.x S.b d_Mpr_giveBack_79 rfl (lv_at hl 2 rfl) ?_
    refine px_get S k_Mpr hT hw 0 0 14 (v := .int (qf5 14)) rfl rfl rfl (by decide) m11_6 d_Mpr_giveBack_80 ?_
    refine px_iald S hT hw 0 4 (n := 132) (f := (qa 16)) rfl (ga_Mpr_16 _ _ _ _ _ _ _) (x := (qf5 14)) (vp_in_iff.mpr (by constructor <;> omega)) d_Mpr_giveBack_83 ?_
    refine lv_topi (fun z29 ez29 => ?_)
    have lz29 := Int32.le_toInt z29
    have uz29 := Int32.toInt_lt z29
    have hz16 := at_k (n := ((qf 14).toInt - 1)) ez29 (by omega) (by omega)
    refine px_put S k_Mpr hT hw 0 0 12 rfl rfl (by decide) m11_4 rfl rfl rfl (Nat.le_of_ble_eq_true rfl) d_Mpr_giveBack_84 (w' := wd_Mpr cs q qr (fun k => if k = 0 then (some h) else none) (upd (upd qf5 5 z28) 12 z29) qa qg) (ps' := [wd_Mpr cs q qr (fun k => if k = 0 then (some h) else none) (upd (upd qf5 5 z28) 12 z29) qa qg, wdP cs h r g tf ta pf na ma wa cf ca ef ea xf xa]) rfl rfl (fun H locs hw => ?_)
    refine lv_aload_n S.x S.b d_Mpr_giveBack_87 rfl (lv_at hl 2 rfl) ?_
    refine lv_aload_n S.x S.b d_Mpr_giveBack_88 rfl (lv_at hl 2 rfl) ?_
    refine px_get S k_Mpr hT hw 0 0 17 (v := .ref (qr 17)) rfl rfl rfl (by decide) m11_9 d_Mpr_giveBack_89 ?_
    refine lv_aload_n S.x S.b d_Mpr_giveBack_92 rfl (lv_at hl 2 rfl) ?_
    refine px_get S k_Mpr hT hw 0 0 14 (v := .int (qf5 14)) rfl rfl rfl (by decide) m11_6 d_Mpr_giveBack_93 ?_
    refine px_iald S hT hw 0 5 (n := 132) (f := (qa 17)) rfl (ga_Mpr_17 _ _ _ _ _ _ _) (x := (qf5 14)) (vp_in_iff.mpr (by constructor <;> omega)) d_Mpr_giveBack_96 ?_
    refine lv_topi (fun z30 ez30 => ?_)
    have lz30 := Int32.le_toInt z30
    have uz30 := Int32.toInt_lt z30
    have hz17 := at_k (n := ((qf 14).toInt - 1)) ez30 (by omega) (by omega)
    refine px_put S k_Mpr hT hw 0 0 13 rfl rfl (by decide) m11_5 rfl rfl rfl (Nat.le_of_ble_eq_true rfl) d_Mpr_giveBack_97 (w' := wd_Mpr cs q qr (fun k => if k = 0 then (some h) else none) (upd (upd (upd qf5 5 z28) 12 z29) 13 z30) qa qg) (ps' := [wd_Mpr cs q qr (fun k => if k = 0 then (some h) else none) (upd (upd (upd qf5 5 z28) 12 z29) 13 z30) qa qg, wdP cs h r g tf ta pf na ma wa cf ca ef ea xf xa]) rfl rfl (fun H locs hw => ?_)
    refine lv_aload_n S.x S.b d_Mpr_giveBack_100 rfl (lv_at hl 2 rfl) ?_
    refine lv_aload_n S.x S.b d_Mpr_giveBack_101 rfl (lv_at hl 2 rfl) ?_
    refine px_get S k_Mpr hT hw 0 0 15 (v := .ref (qr 15)) rfl rfl rfl (by decide) m11_7 d_Mpr_giveBack_102 ?_
    refine lv_aload_n S.x S.b d_Mpr_giveBack_105 rfl (lv_at hl 2 rfl) ?_
    refine px_get S k_Mpr hT hw 0 0 14 (v := .int (qf5 14)) rfl rfl rfl (by decide) m11_6 d_Mpr_giveBack_106 ?_
    refine px_iald S hT hw 0 3 (n := 132) (f := (qa 15)) rfl (ga_Mpr_15 _ _ _ _ _ _ _) (x := (qf5 14)) (vp_in_iff.mpr (by constructor <;> omega)) d_Mpr_giveBack_109 ?_
    refine lv_topi (fun z31 ez31 => ?_)
    have lz31 := Int32.le_toInt z31
    have uz31 := Int32.toInt_lt z31
    have hz15 := at_k (n := ((qf 14).toInt - 1)) ez31 (by omega) (by omega)
    refine px_put S k_Mpr hT hw 0 0 11 rfl rfl (by decide) m11_2 rfl rfl rfl (Nat.le_of_ble_eq_true rfl) d_Mpr_giveBack_110 (w' := wd_Mpr cs q qr (fun k => if k = 0 then (some h) else none) (upd (upd (upd (upd qf5 5 z28) 11 z31) 12 z29) 13 z30) qa qg) (ps' := [wd_Mpr cs q qr (fun k => if k = 0 then (some h) else none) (upd (upd (upd (upd qf5 5 z28) 11 z31) 12 z29) 13 z30) qa qg, wdP cs h r g tf ta pf na ma wa cf ca ef ea xf xa]) rfl rfl (fun H locs hw => ?_)
    refine lv_aload_n S.x S.b d_Mpr_giveBack_113 rfl (lv_at hl 2 rfl) ?_
    refine px_get S k_Mpr hT hw 0 0 14 (v := .int (qf5 14)) rfl rfl rfl (by decide) m11_6 d_Mpr_giveBack_114 ?_
    refine lv_if_ne (tgt := 129) S.x S.b d_Mpr_giveBack_117 (by decide) (fun c32 => ?_) (fun c32 => ?_)
    · have nc32 : ¬ (qf5 14).toInt = (0 : Int) := mt (i_eq (x := (qf5 14)) (y := 0)).mpr c32
      refine lv_aload_n S.x S.b d_Mpr_giveBack_129 rfl (lv_at hl 2 rfl) ?_
      refine lv_iload_n S.x S.b d_Mpr_giveBack_130 rfl (lv_at hl 0 rfl) ?_
      refine px_callv (pr := []) (px_runV (As := [.int v7]) (rest := []) S (c_mr_give l D cs (0 : Int) q qr qg (upd (upd (upd (upd qf5 5 z28) 11 z31) 12 z29) 13 z30) qa h r g tf ta pf na ma wa cf ca ef ea xf xa v7  (show 0 ≤ (qf5 10).toInt from by first | with_reducible rfl | with_reducible assumption | omega) (show (qf5 10).toInt < 62500 from by first | with_reducible rfl | with_reducible assumption | omega) _) hT (pr := []) (pcs := [wd_Mpr cs q qr (fun k => if k = 0 then (some h) else none) (upd (upd (upd (upd qf5 5 z28) 11 z31) 12 z29) 13 z30) qa qg, wdP cs h r g tf ta pf na ma wa cf ca ef ea xf xa]) hw (oX_call (P := (fun A U H => (oP A g U H))) (pr := []) oG_P hw hA hP) (px_recv hT hw 0 0 rfl rfl rfl) m13_161 m13_158 m13_159 m13_160 m1_22 q_Mpr_give ⟨Nat.le_of_ble_eq_true rfl, Nat.le_of_ble_eq_true rfl⟩ hl.1 rfl (Nat.le_of_ble_eq_true rfl) d_Mpr_giveBack_131 ⟨Nat.le_of_ble_eq_true rfl, Nat.le_of_ble_eq_true rfl⟩) hw hA (fun p37 H locs hp37 hw => ?_)
      obtain ⟨qf35, qa36, rfl, e39, e40, e41, e42, e43, e44, e45, e46, e47, e48, e49, e50, e51, e52, e53, e54⟩ := hp37
      replace e39 : (qf35 10).toInt = (qf5 10).toInt + 1 := e39
      replace e40 : (qf35 1).toInt = (qf5 1).toInt := e40
      replace e41 : (qf35 2).toInt = (qf5 2).toInt := e41
      replace e42 : (qf35 3).toInt = (qf5 3).toInt := e42
      replace e43 : (qf35 4).toInt = (qf5 4).toInt := e43
      replace e44 : (qf35 5).toInt = z28.toInt := e44
      replace e45 : (qf35 6).toInt = (qf5 6).toInt := e45
      replace e46 : (qf35 7).toInt = (qf5 7).toInt := e46
      replace e47 : (qf35 11).toInt = z31.toInt := e47
      replace e48 : (qf35 12).toInt = z29.toInt := e48
      replace e49 : (qf35 13).toInt = z30.toInt := e49
      replace e50 : (qf35 14).toInt = (qf5 14).toInt := e50
      replace e51 : (qf35 21).toInt = (qf5 21).toInt := e51
      replace e52 : (qf35 23).toInt = (qf5 23).toInt := e52
      replace e53 : (qf35 24).toInt = (qf5 24).toInt := e53
      replace e54 : NuU qa qa36 9 (qf5 10).toInt v7 := e54
      skip
      replace hw : pw D A s.heap H locs [wd_Mpr cs q qr (fun k => if k = 0 then (some h) else none) qf35 qa36 qg, wdP cs h r g tf ta pf na ma wa cf ca ef ea xf xa] := hw
      exact px_vret S hr hlk hAe hw (Nat.le_of_ble_eq_true rfl) (Nat.le_of_ble_eq_true rfl) (⟨qf35, qa36, rfl, (show (qf35 1).toInt = (qf 1).toInt from by first | exact oz_1687f4cc65 e9 e40 | omega), (show (qf35 6).toInt = (qf 6).toInt from by first | exact oz_1687f4cc65 e14 e45 | omega), (show (qf35 7).toInt = (qf 7).toInt from by first | exact oz_1687f4cc65 e15 e46 | omega), (show (qf35 21).toInt = (qf 21).toInt from by first | exact oz_1687f4cc65 e20 e51 | omega), (show (qf35 23).toInt = (qf 23).toInt from by first | exact oz_1687f4cc65 e21 e52 | omega), (show (qf35 24).toInt = (qf 24).toInt from by first | exact oz_1687f4cc65 e22 e53 | omega), (show RzO (qf35 2).toInt (RuZ X9 K9 ca qa36 (cf 55).toInt (cf 38).toInt st9 (qf35 14).toInt (qf35 11).toInt (qf35 10).toInt (qf35 12).toInt (qf35 13).toInt (qf35 5).toInt (qf35 4).toInt (rkN (qf 4).toInt (qf 14).toInt (v8 : Int) ((qf 11).toInt - 1))) from (fun q9 => RuZ.tq (MdI.ret (m' := ((qf 14).toInt - 1)) hmd ho18 rfl rfl rfl rfl rfl (by omega) (show NuU qa _ 9 ((qf 10).toInt - 1) _ from (by have q8 := e54; rw [show (qf5 10).toInt = (qf 10).toInt - 1 by omega] at q8; exact q8)) rfl) (by omega) (by rw [← hz15]; omega) (by omega) (by rw [← hz16]; omega) (by rw [← hz17]; omega) (by rw [← hz18, hzn]; omega) (by omega)))⟩) d_Mpr_giveBack_134
    · have nc32 : (qf5 14).toInt = (0 : Int) := (i_eq (x := (qf5 14)) (y := 0)).mp c32
      refine lv_aload_n S.x S.b d_Mpr_giveBack_120 rfl (lv_at hl 2 rfl) ?_
      refine lv_iconst (v := 0) S.x S.b d_Mpr_giveBack_121 (by decide) ?_
      refine lv_iload_n S.x S.b d_Mpr_giveBack_122 rfl (lv_at hl 0 rfl) ?_
      refine px_callv (pr := []) (px_runV (As := [.int 0, .int v7]) (rest := []) S (c_mr_end l D cs (0 : Int) q qr qg qa (upd (upd (upd (upd qf5 5 z28) 11 z31) 12 z29) 13 z30) h r g tf ta pf na ma wa cf ca ef ea xf xa 0 v7   _) hT (pr := []) (pcs := [wd_Mpr cs q qr (fun k => if k = 0 then (some h) else none) (upd (upd (upd (upd qf5 5 z28) 11 z31) 12 z29) 13 z30) qa qg, wdP cs h r g tf ta pf na ma wa cf ca ef ea xf xa]) hw (oX_call (P := (fun A U H => (oP A g U H))) (pr := []) oG_P hw hA hP) (px_recv hT hw 0 0 rfl rfl rfl) m13_177 m13_174 m13_175 m13_176 m1_22 q_Mpr_end ⟨Nat.le_of_ble_eq_true rfl, Nat.le_of_ble_eq_true rfl⟩ hl.1 rfl (Nat.le_of_ble_eq_true rfl) d_Mpr_giveBack_123 ⟨Nat.le_of_ble_eq_true rfl, Nat.le_of_ble_eq_true rfl⟩) hw hA (fun p57 H locs hp57 hw => ?_)
      obtain ⟨qf56, rfl, e59, e60, e61, e62, e63, e64, e65, e66, e67, e68, e69, e70, e71, e72, e73⟩ := hp57
      replace e59 : (qf56 2).toInt = (0 : Int) := e59
      replace e60 : (qf56 3).toInt = v7.toInt := e60
      replace e61 : (qf56 1).toInt = (qf5 1).toInt := e61
      replace e62 : (qf56 4).toInt = (qf5 4).toInt := e62
      replace e63 : (qf56 5).toInt = z28.toInt := e63
      replace e64 : (qf56 6).toInt = (qf5 6).toInt := e64
      replace e65 : (qf56 7).toInt = (qf5 7).toInt := e65
      replace e66 : (qf56 10).toInt = (qf5 10).toInt := e66
      replace e67 : (qf56 11).toInt = z31.toInt := e67
      replace e68 : (qf56 12).toInt = z29.toInt := e68
      replace e69 : (qf56 13).toInt = z30.toInt := e69
      replace e70 : (qf56 14).toInt = (qf5 14).toInt := e70
      replace e71 : (qf56 21).toInt = (qf5 21).toInt := e71
      replace e72 : (qf56 23).toInt = (qf5 23).toInt := e72
      replace e73 : (qf56 24).toInt = (qf5 24).toInt := e73
      replace hw : pw D A s.heap H locs [wd_Mpr cs q qr (fun k => if k = 0 then (some h) else none) qf56 qa qg, wdP cs h r g tf ta pf na ma wa cf ca ef ea xf xa] := hw
      refine lv_goto (tgt := 134) S.x S.b d_Mpr_giveBack_126 (by decide) ?_
      exact px_vret S hr hlk hAe hw (Nat.le_of_ble_eq_true rfl) (Nat.le_of_ble_eq_true rfl) (⟨qf56, qa, rfl, (show (qf56 1).toInt = (qf 1).toInt from by first | exact oz_1687f4cc65 e9 e61 | omega), (show (qf56 6).toInt = (qf 6).toInt from by first | exact oz_1687f4cc65 e14 e64 | omega), (show (qf56 7).toInt = (qf 7).toInt from by first | exact oz_1687f4cc65 e15 e65 | omega), (show (qf56 21).toInt = (qf 21).toInt from by first | exact oz_1687f4cc65 e20 e71 | omega), (show (qf56 23).toInt = (qf 23).toInt from by first | exact oz_1687f4cc65 e21 e72 | omega), (show (qf56 24).toInt = (qf 24).toInt from by first | exact oz_1687f4cc65 e22 e73 | omega), (show RzO (qf56 2).toInt (RuZ X9 K9 ca qa (cf 55).toInt (cf 38).toInt st9 (qf56 14).toInt (qf56 11).toInt (qf56 10).toInt (qf56 12).toInt (qf56 13).toInt (qf56 5).toInt (qf56 4).toInt (rkN (qf 4).toInt (qf 14).toInt (v8 : Int) ((qf 11).toInt - 1))) from (fun q9 => absurd q9 (by omega)))⟩) d_Mpr_giveBack_134
  · have nc25 : z24.toInt = (1 : Int) := (i_eq (x := z24) (y := 1)).mp c25
    refine lv_iload_n S.x S.b d_Mpr_giveBack_46 rfl (lv_at hl 0 rfl) ?_
    refine lv_sipush (v := 255) S.x S.b d_Mpr_giveBack_47 (by decide) ?_
    refine lv_iand S.x S.b d_Mpr_giveBack_50 ?_
    refine lv_topi (fun z74 ez74 => ?_)
    have lz74 := Int32.le_toInt z74
    have uz74 := Int32.toInt_lt z74
    have bz74 := i_andm v7 (m := 255) 8 (by decide) (by decide)
    rw [← ez74] at bz74
    have wz74 : 0 ≤ z74.toInt ∧ z74.toInt ≤ 255 := by simp only [Nat.reducePow, Int.reducePow] at bz74; omega
    refine lv_goto (tgt := 55) S.x S.b d_Mpr_giveBack_51 (by decide) ?_
    refine lv_istore_n (lv' := [(2, .int z74), (1, .int z3), (0, .ref q)]) S.x S.b d_Mpr_giveBack_55 rfl hl (by decide) rfl (fun ls hl => ?_)
    refine lv_aload_n S.x S.b d_Mpr_giveBack_56 rfl (lv_at hl 2 rfl) ?_
    refine lv_aload_n S.x S.b d_Mpr_giveBack_57 rfl (lv_at hl 2 rfl) ?_
    refine px_get S k_Mpr hT hw 0 0 5 (v := .int (qf5 5)) rfl rfl rfl (by decide) m10_231 d_Mpr_giveBack_58 ?_
    refine lv_aload_n S.x S.b d_Mpr_giveBack_61 rfl (lv_at hl 2 rfl) ?_
    refine px_get S k_Mpr hT hw 0 0 0 (v := .ref h) rfl rfl rfl (by decide) m10_221 d_Mpr_giveBack_62 ?_
    refine px_getN S k_Mpg hT hw 1 0 40 (v := .ref (r 40)) rfl rfl rfl (by decide) m10_31n d_Mpr_giveBack_65 ?_
    refine lv_iload_n S.x S.b d_Mpr_giveBack_68 rfl (lv_at hl 1 rfl) ?_
    refine px_iald S hT hw 1 27 (n := 260) (f := (ca 40)) rfl gp_40 (x := z3) (vp_in_iff.mpr (by constructor <;> omega)) d_Mpr_giveBack_69 ?_
    refine lv_topi (fun z75 ez75 => ?_)
    have lz75 := Int32.le_toInt z75
    have uz75 := Int32.toInt_lt z75
    have hz40 : z75.toInt = (ca 40 f9.toNat).toInt := (by rw [ez75, hzn])
    refine lv_iadd S.x S.b d_Mpr_giveBack_70 ?_
    have lr76 := Int32.le_toInt (qf5 5)
    have ur76 := Int32.toInt_lt (qf5 5)
    refine lv_topi (fun z77 ez77 => ?_)
    have tz77 : z77.toInt = ((qf5 5).toInt + z75.toInt + 2147483648) % 4294967296 - 2147483648 := by rw [ez77]; exact i_add (qf5 5) z75
    have lz77 := Int32.le_toInt z77
    have uz77 := Int32.toInt_lt z77
    try replace tz77 : z77.toInt = (qf5 5).toInt + z75.toInt := by omega
    refine px_put S k_Mpr hT hw 0 0 5 rfl rfl (by decide) m10_231 rfl rfl rfl (Nat.le_of_ble_eq_true rfl) d_Mpr_giveBack_71 (w' := wd_Mpr cs q qr (fun k => if k = 0 then (some h) else none) (upd qf5 5 z77) qa qg) (ps' := [wd_Mpr cs q qr (fun k => if k = 0 then (some h) else none) (upd qf5 5 z77) qa qg, wdP cs h r g tf ta pf na ma wa cf ca ef ea xf xa]) rfl rfl (fun H locs hw => ?_)
    refine lv_aload_n S.x S.b d_Mpr_giveBack_74 rfl (lv_at hl 2 rfl) ?_
    refine lv_aload_n S.x S.b d_Mpr_giveBack_75 rfl (lv_at hl 2 rfl) ?_
    refine px_get S k_Mpr hT hw 0 0 16 (v := .ref (qr 16)) rfl rfl rfl (by decide) m11_8 d_Mpr_giveBack_76 ?_
    refine lv_aload_n S.x S.b d_Mpr_giveBack_79 rfl (lv_at hl 2 rfl) ?_
    refine px_get S k_Mpr hT hw 0 0 14 (v := .int (qf5 14)) rfl rfl rfl (by decide) m11_6 d_Mpr_giveBack_80 ?_
    refine px_iald S hT hw 0 4 (n := 132) (f := (qa 16)) rfl (ga_Mpr_16 _ _ _ _ _ _ _) (x := (qf5 14)) (vp_in_iff.mpr (by constructor <;> omega)) d_Mpr_giveBack_83 ?_
    refine lv_topi (fun z78 ez78 => ?_)
    have lz78 := Int32.le_toInt z78
    have uz78 := Int32.toInt_lt z78
    have hz16 := at_k (n := ((qf 14).toInt - 1)) ez78 (by omega) (by omega)
    refine px_put S k_Mpr hT hw 0 0 12 rfl rfl (by decide) m11_4 rfl rfl rfl (Nat.le_of_ble_eq_true rfl) d_Mpr_giveBack_84 (w' := wd_Mpr cs q qr (fun k => if k = 0 then (some h) else none) (upd (upd qf5 5 z77) 12 z78) qa qg) (ps' := [wd_Mpr cs q qr (fun k => if k = 0 then (some h) else none) (upd (upd qf5 5 z77) 12 z78) qa qg, wdP cs h r g tf ta pf na ma wa cf ca ef ea xf xa]) rfl rfl (fun H locs hw => ?_)
    refine lv_aload_n S.x S.b d_Mpr_giveBack_87 rfl (lv_at hl 2 rfl) ?_
    refine lv_aload_n S.x S.b d_Mpr_giveBack_88 rfl (lv_at hl 2 rfl) ?_
    refine px_get S k_Mpr hT hw 0 0 17 (v := .ref (qr 17)) rfl rfl rfl (by decide) m11_9 d_Mpr_giveBack_89 ?_
    refine lv_aload_n S.x S.b d_Mpr_giveBack_92 rfl (lv_at hl 2 rfl) ?_
    refine px_get S k_Mpr hT hw 0 0 14 (v := .int (qf5 14)) rfl rfl rfl (by decide) m11_6 d_Mpr_giveBack_93 ?_
    refine px_iald S hT hw 0 5 (n := 132) (f := (qa 17)) rfl (ga_Mpr_17 _ _ _ _ _ _ _) (x := (qf5 14)) (vp_in_iff.mpr (by constructor <;> omega)) d_Mpr_giveBack_96 ?_
    refine lv_topi (fun z79 ez79 => ?_)
    have lz79 := Int32.le_toInt z79
    have uz79 := Int32.toInt_lt z79
    have hz17 := at_k (n := ((qf 14).toInt - 1)) ez79 (by omega) (by omega)
    refine px_put S k_Mpr hT hw 0 0 13 rfl rfl (by decide) m11_5 rfl rfl rfl (Nat.le_of_ble_eq_true rfl) d_Mpr_giveBack_97 (w' := wd_Mpr cs q qr (fun k => if k = 0 then (some h) else none) (upd (upd (upd qf5 5 z77) 12 z78) 13 z79) qa qg) (ps' := [wd_Mpr cs q qr (fun k => if k = 0 then (some h) else none) (upd (upd (upd qf5 5 z77) 12 z78) 13 z79) qa qg, wdP cs h r g tf ta pf na ma wa cf ca ef ea xf xa]) rfl rfl (fun H locs hw => ?_)
    refine lv_aload_n S.x S.b d_Mpr_giveBack_100 rfl (lv_at hl 2 rfl) ?_
    refine lv_aload_n S.x S.b d_Mpr_giveBack_101 rfl (lv_at hl 2 rfl) ?_
    refine px_get S k_Mpr hT hw 0 0 15 (v := .ref (qr 15)) rfl rfl rfl (by decide) m11_7 d_Mpr_giveBack_102 ?_
    refine lv_aload_n S.x S.b d_Mpr_giveBack_105 rfl (lv_at hl 2 rfl) ?_
    refine px_get S k_Mpr hT hw 0 0 14 (v := .int (qf5 14)) rfl rfl rfl (by decide) m11_6 d_Mpr_giveBack_106 ?_
    refine px_iald S hT hw 0 3 (n := 132) (f := (qa 15)) rfl (ga_Mpr_15 _ _ _ _ _ _ _) (x := (qf5 14)) (vp_in_iff.mpr (by constructor <;> omega)) d_Mpr_giveBack_109 ?_
    refine lv_topi (fun z80 ez80 => ?_)
    have lz80 := Int32.le_toInt z80
    have uz80 := Int32.toInt_lt z80
    have hz15 := at_k (n := ((qf 14).toInt - 1)) ez80 (by omega) (by omega)
    refine px_put S k_Mpr hT hw 0 0 11 rfl rfl (by decide) m11_2 rfl rfl rfl (Nat.le_of_ble_eq_true rfl) d_Mpr_giveBack_110 (w' := wd_Mpr cs q qr (fun k => if k = 0 then (some h) else none) (upd (upd (upd (upd qf5 5 z77) 11 z80) 12 z78) 13 z79) qa qg) (ps' := [wd_Mpr cs q qr (fun k => if k = 0 then (some h) else none) (upd (upd (upd (upd qf5 5 z77) 11 z80) 12 z78) 13 z79) qa qg, wdP cs h r g tf ta pf na ma wa cf ca ef ea xf xa]) rfl rfl (fun H locs hw => ?_)
    refine lv_aload_n S.x S.b d_Mpr_giveBack_113 rfl (lv_at hl 2 rfl) ?_
    refine px_get S k_Mpr hT hw 0 0 14 (v := .int (qf5 14)) rfl rfl rfl (by decide) m11_6 d_Mpr_giveBack_114 ?_
    refine lv_if_ne (tgt := 129) S.x S.b d_Mpr_giveBack_117 (by decide) (fun c81 => ?_) (fun c81 => ?_)
    · have nc81 : ¬ (qf5 14).toInt = (0 : Int) := mt (i_eq (x := (qf5 14)) (y := 0)).mpr c81
      refine lv_aload_n S.x S.b d_Mpr_giveBack_129 rfl (lv_at hl 2 rfl) ?_
      refine lv_iload_n S.x S.b d_Mpr_giveBack_130 rfl (lv_at hl 0 rfl) ?_
      refine px_callv (pr := []) (px_runV (As := [.int z74]) (rest := []) S (c_mr_give l D cs (0 : Int) q qr qg (upd (upd (upd (upd qf5 5 z77) 11 z80) 12 z78) 13 z79) qa h r g tf ta pf na ma wa cf ca ef ea xf xa z74  (show 0 ≤ (qf5 10).toInt from by first | with_reducible rfl | with_reducible assumption | omega) (show (qf5 10).toInt < 62500 from by first | with_reducible rfl | with_reducible assumption | omega) _) hT (pr := []) (pcs := [wd_Mpr cs q qr (fun k => if k = 0 then (some h) else none) (upd (upd (upd (upd qf5 5 z77) 11 z80) 12 z78) 13 z79) qa qg, wdP cs h r g tf ta pf na ma wa cf ca ef ea xf xa]) hw (oX_call (P := (fun A U H => (oP A g U H))) (pr := []) oG_P hw hA hP) (px_recv hT hw 0 0 rfl rfl rfl) m13_161 m13_158 m13_159 m13_160 m1_22 q_Mpr_give ⟨Nat.le_of_ble_eq_true rfl, Nat.le_of_ble_eq_true rfl⟩ hl.1 rfl (Nat.le_of_ble_eq_true rfl) d_Mpr_giveBack_131 ⟨Nat.le_of_ble_eq_true rfl, Nat.le_of_ble_eq_true rfl⟩) hw hA (fun p86 H locs hp86 hw => ?_)
      obtain ⟨qf84, qa85, rfl, e88, e89, e90, e91, e92, e93, e94, e95, e96, e97, e98, e99, e100, e101, e102, e103⟩ := hp86
      replace e88 : (qf84 10).toInt = (qf5 10).toInt + 1 := e88
      replace e89 : (qf84 1).toInt = (qf5 1).toInt := e89
      replace e90 : (qf84 2).toInt = (qf5 2).toInt := e90
      replace e91 : (qf84 3).toInt = (qf5 3).toInt := e91
      replace e92 : (qf84 4).toInt = (qf5 4).toInt := e92
      replace e93 : (qf84 5).toInt = z77.toInt := e93
      replace e94 : (qf84 6).toInt = (qf5 6).toInt := e94
      replace e95 : (qf84 7).toInt = (qf5 7).toInt := e95
      replace e96 : (qf84 11).toInt = z80.toInt := e96
      replace e97 : (qf84 12).toInt = z78.toInt := e97
      replace e98 : (qf84 13).toInt = z79.toInt := e98
      replace e99 : (qf84 14).toInt = (qf5 14).toInt := e99
      replace e100 : (qf84 21).toInt = (qf5 21).toInt := e100
      replace e101 : (qf84 23).toInt = (qf5 23).toInt := e101
      replace e102 : (qf84 24).toInt = (qf5 24).toInt := e102
      replace e103 : NuU qa qa85 9 (qf5 10).toInt z74 := e103
      skip
      replace hw : pw D A s.heap H locs [wd_Mpr cs q qr (fun k => if k = 0 then (some h) else none) qf84 qa85 qg, wdP cs h r g tf ta pf na ma wa cf ca ef ea xf xa] := hw
      exact px_vret S hr hlk hAe hw (Nat.le_of_ble_eq_true rfl) (Nat.le_of_ble_eq_true rfl) (⟨qf84, qa85, rfl, (show (qf84 1).toInt = (qf 1).toInt from by first | exact oz_1687f4cc65 e9 e89 | omega), (show (qf84 6).toInt = (qf 6).toInt from by first | exact oz_1687f4cc65 e14 e94 | omega), (show (qf84 7).toInt = (qf 7).toInt from by first | exact oz_1687f4cc65 e15 e95 | omega), (show (qf84 21).toInt = (qf 21).toInt from by first | exact oz_1687f4cc65 e20 e100 | omega), (show (qf84 23).toInt = (qf 23).toInt from by first | exact oz_1687f4cc65 e21 e101 | omega), (show (qf84 24).toInt = (qf 24).toInt from by first | exact oz_1687f4cc65 e22 e102 | omega), (show RzO (qf84 2).toInt (RuZ X9 K9 ca qa85 (cf 55).toInt (cf 38).toInt st9 (qf84 14).toInt (qf84 11).toInt (qf84 10).toInt (qf84 12).toInt (qf84 13).toInt (qf84 5).toInt (qf84 4).toInt (rkN (qf 4).toInt (qf 14).toInt (v8 : Int) ((qf 11).toInt - 1))) from (fun q9 => RuZ.tq (MdI.ret (m' := ((qf 14).toInt - 1)) hmd ho18 rfl rfl rfl rfl rfl (by omega) (show NuU qa _ 9 ((qf 10).toInt - 1) _ from (by have q8 := e103; rw [show (qf5 10).toInt = (qf 10).toInt - 1 by omega] at q8; exact q8)) rfl) (by omega) (by rw [← hz15]; omega) (by omega) (by rw [← hz16]; omega) (by rw [← hz17]; omega) (by rw [← hz18, hzn]; omega) (by omega)))⟩) d_Mpr_giveBack_134
    · have nc81 : (qf5 14).toInt = (0 : Int) := (i_eq (x := (qf5 14)) (y := 0)).mp c81
      refine lv_aload_n S.x S.b d_Mpr_giveBack_120 rfl (lv_at hl 2 rfl) ?_
      refine lv_iconst (v := 0) S.x S.b d_Mpr_giveBack_121 (by decide) ?_
      refine lv_iload_n S.x S.b d_Mpr_giveBack_122 rfl (lv_at hl 0 rfl) ?_
      refine px_callv (pr := []) (px_runV (As := [.int 0, .int z74]) (rest := []) S (c_mr_end l D cs (0 : Int) q qr qg qa (upd (upd (upd (upd qf5 5 z77) 11 z80) 12 z78) 13 z79) h r g tf ta pf na ma wa cf ca ef ea xf xa 0 z74   _) hT (pr := []) (pcs := [wd_Mpr cs q qr (fun k => if k = 0 then (some h) else none) (upd (upd (upd (upd qf5 5 z77) 11 z80) 12 z78) 13 z79) qa qg, wdP cs h r g tf ta pf na ma wa cf ca ef ea xf xa]) hw (oX_call (P := (fun A U H => (oP A g U H))) (pr := []) oG_P hw hA hP) (px_recv hT hw 0 0 rfl rfl rfl) m13_177 m13_174 m13_175 m13_176 m1_22 q_Mpr_end ⟨Nat.le_of_ble_eq_true rfl, Nat.le_of_ble_eq_true rfl⟩ hl.1 rfl (Nat.le_of_ble_eq_true rfl) d_Mpr_giveBack_123 ⟨Nat.le_of_ble_eq_true rfl, Nat.le_of_ble_eq_true rfl⟩) hw hA (fun p106 H locs hp106 hw => ?_)
      obtain ⟨qf105, rfl, e108, e109, e110, e111, e112, e113, e114, e115, e116, e117, e118, e119, e120, e121, e122⟩ := hp106
      replace e108 : (qf105 2).toInt = (0 : Int) := e108
      replace e109 : (qf105 3).toInt = z74.toInt := e109
      replace e110 : (qf105 1).toInt = (qf5 1).toInt := e110
      replace e111 : (qf105 4).toInt = (qf5 4).toInt := e111
      replace e112 : (qf105 5).toInt = z77.toInt := e112
      replace e113 : (qf105 6).toInt = (qf5 6).toInt := e113
      replace e114 : (qf105 7).toInt = (qf5 7).toInt := e114
      replace e115 : (qf105 10).toInt = (qf5 10).toInt := e115
      replace e116 : (qf105 11).toInt = z80.toInt := e116
      replace e117 : (qf105 12).toInt = z78.toInt := e117
      replace e118 : (qf105 13).toInt = z79.toInt := e118
      replace e119 : (qf105 14).toInt = (qf5 14).toInt := e119
      replace e120 : (qf105 21).toInt = (qf5 21).toInt := e120
      replace e121 : (qf105 23).toInt = (qf5 23).toInt := e121
      replace e122 : (qf105 24).toInt = (qf5 24).toInt := e122
      replace hw : pw D A s.heap H locs [wd_Mpr cs q qr (fun k => if k = 0 then (some h) else none) qf105 qa qg, wdP cs h r g tf ta pf na ma wa cf ca ef ea xf xa] := hw
      refine lv_goto (tgt := 134) S.x S.b d_Mpr_giveBack_126 (by decide) ?_
      exact px_vret S hr hlk hAe hw (Nat.le_of_ble_eq_true rfl) (Nat.le_of_ble_eq_true rfl) (⟨qf105, qa, rfl, (show (qf105 1).toInt = (qf 1).toInt from by first | exact oz_1687f4cc65 e9 e110 | omega), (show (qf105 6).toInt = (qf 6).toInt from by first | exact oz_1687f4cc65 e14 e113 | omega), (show (qf105 7).toInt = (qf 7).toInt from by first | exact oz_1687f4cc65 e15 e114 | omega), (show (qf105 21).toInt = (qf 21).toInt from by first | exact oz_1687f4cc65 e20 e120 | omega), (show (qf105 23).toInt = (qf 23).toInt from by first | exact oz_1687f4cc65 e21 e121 | omega), (show (qf105 24).toInt = (qf 24).toInt from by first | exact oz_1687f4cc65 e22 e122 | omega), (show RzO (qf105 2).toInt (RuZ X9 K9 ca qa (cf 55).toInt (cf 38).toInt st9 (qf105 14).toInt (qf105 11).toInt (qf105 10).toInt (qf105 12).toInt (qf105 13).toInt (qf105 5).toInt (qf105 4).toInt (rkN (qf 4).toInt (qf 14).toInt (v8 : Int) ((qf 11).toInt - 1))) from (fun q9 => absurd q9 (by omega)))⟩) d_Mpr_giveBack_134
