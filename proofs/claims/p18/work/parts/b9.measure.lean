theorem oz_cefed573d4 {n0 : Nat}  : (2 * n0 + 8) + 1 ≤ (2 * n0 + 9) := by omega
theorem oz_9562900b6f {n0 : Nat}  : 8 + (12 + 11) + (100 * n0 + 260) ≤ (100 * n0 + 300) := by omega
theorem oz_c2e902baaf {a0 a1 a2 a3 : Int} (h0 : a0 ≤ 2 * (a1 - a2)) (h1 : 0 ≤ a2) (h2 : a1 ≤ a3) (h3 : a3 ≤ 2100) : a0 ≤ 4200 := by omega
theorem oz_8c4e61806b {a0 : Int} (h0 : ¬ (0 : Int) ≤ a0) : a0 ≤ (0 : Int) := by omega
theorem oz_abc03e487a  : (0 : Int) ≤ 4200 := by omega
theorem oz_3f68f4e51e {n0 : Nat}  : (5 * n0 + 14) + 1 ≤ (5 * n0 + 15) := by omega
theorem oz_b480ceabe2 {n0 : Nat}  : 8 + (3 + 11) + (220 * n0 + 460) ≤ (220 * n0 + 500) := by omega
theorem m10_56 : Cond.fieldLink "HomeSystemModel$Program" 673 "HomeSystemModel$Program" "tall" "I" ∈ AL := AL_10 (List.mem_of_getElem? (i := 56) rfl) rfl
theorem m13_54 : Cond.methodLink "HomeSystemModel$Program" 682 ⟨"HomeSystemModel$Program", "measureOne", "(I)V"⟩ ∈ AL := AL_13 (List.mem_of_getElem? (i := 54) rfl) rfl
theorem m13_57 : Cond.code ⟨"HomeSystemModel$Program", "measureOne", "(I)V"⟩ prog_16_method_101_code 3 (Option.none : Option Jvm.ClassFile.FieldType) ∈ AL := AL_13 (List.mem_of_getElem? (i := 57) rfl) rfl
theorem ms_13_11 : Cond.selects "HomeSystemModel$Program" ⟨"HomeSystemModel$Program", "measureOne", "(I)V"⟩ ⟨"HomeSystemModel$Program", "measureOne", "(I)V"⟩ ∈ AL := AL_p (q := (⟨"HomeSystemModel$Program", "measureOne", "(I)V"⟩, 69)) (by unfold lw_privs; exact List.mem_append_right _ (List.mem_append_right _ (List.mem_append_right _ (List.mem_append_right _ (List.mem_append_right _ (List.mem_append_right _ (List.mem_append_right _ (List.mem_append_right _ (List.mem_append_right _ (List.mem_append_right _ (List.mem_append_right _ (List.mem_append_right _ (List.mem_append_left _ (List.mem_of_getElem? (i := 11) rfl))))))))))))))
theorem m13_56 : Cond.instanceMethod ⟨"HomeSystemModel$Program", "measureOne", "(I)V"⟩ ∈ AL := AL_13 (List.mem_of_getElem? (i := 56) rfl) rfl
abbrev b_Mpg_raise : ByteArray := prog_16_method_99_code
def y_Mpg_raise : MethodName := ⟨"HomeSystemModel$Program", "raise", "(I)V"⟩
theorem d_Mpg_raise_0 : decode b_Mpg_raise 0 = .ok (.iload_n 1, 1) := by decide +kernel
theorem d_Mpg_raise_1 : decode b_Mpg_raise 1 = .ok (.ifCond .ge 7, 3) := by decide +kernel
theorem d_Mpg_raise_4 : decode b_Mpg_raise 4 = .ok (.iconst 0, 1) := by decide +kernel
theorem d_Mpg_raise_5 : decode b_Mpg_raise 5 = .ok (.goto 8, 3) := by decide +kernel
theorem d_Mpg_raise_8 : decode b_Mpg_raise 8 = .ok (.aload_n 0, 1) := by decide +kernel
theorem d_Mpg_raise_9 : decode b_Mpg_raise 9 = .ok (.iload_n 1, 1) := by decide +kernel
theorem d_Mpg_raise_10 : decode b_Mpg_raise 10 = .ok (.invokevirtual 679, 3) := by decide +kernel
theorem d_Mpg_raise_13 : decode b_Mpg_raise 13 = .ok (.istore_n 2, 1) := by decide +kernel
theorem d_Mpg_raise_14 : decode b_Mpg_raise 14 = .ok (.aload_n 0, 1) := by decide +kernel
theorem d_Mpg_raise_15 : decode b_Mpg_raise 15 = .ok (.iload_n 2, 1) := by decide +kernel
theorem d_Mpg_raise_16 : decode b_Mpg_raise 16 = .ok (.aload_n 0, 1) := by decide +kernel
theorem d_Mpg_raise_17 : decode b_Mpg_raise 17 = .ok (.getfield 673, 3) := by decide +kernel
theorem d_Mpg_raise_20 : decode b_Mpg_raise 20 = .ok (.if_icmp .le 7, 3) := by decide +kernel
theorem d_Mpg_raise_23 : decode b_Mpg_raise 23 = .ok (.iload_n 2, 1) := by decide +kernel
theorem d_Mpg_raise_24 : decode b_Mpg_raise 24 = .ok (.goto 7, 3) := by decide +kernel
theorem d_Mpg_raise_27 : decode b_Mpg_raise 27 = .ok (.aload_n 0, 1) := by decide +kernel
theorem d_Mpg_raise_28 : decode b_Mpg_raise 28 = .ok (.getfield 673, 3) := by decide +kernel
theorem d_Mpg_raise_31 : decode b_Mpg_raise 31 = .ok (.putfield 673, 3) := by decide +kernel
theorem d_Mpg_raise_34 : decode b_Mpg_raise 34 = .ok (.return_, 1) := by decide +kernel
theorem q_Mpg_raise : px_y y_Mpg_raise 1 := by unfold px_y; decide +kernel
set_option maxHeartbeats 4000000 in
set_option maxRecDepth 100000 in
theorem c_mp_raise (l : Launch) (D : va_G) (cs : Nat → ClassId) (ma0 : Nat → Nat → Int32) (ys : Int) (ns : Int) (nf : Int) (d : Nat) (lo : Int) (hi : Int) (V : Nat → Nat → Prop) (vl : Int) (vh : Int) (h : Nat) (r : Nat → Nat) (g : Nat → Nat → Option Nat) (tf : Nat → Int32) (ta : Nat → Nat → Int32) (pf : Nat → Int32) (na : Nat → Nat → Int32) (ma : Nat → Nat → Int32) (wa : Nat → Nat → Int32) (ca : Nat → Nat → Int32) (ef : Nat → Int32) (ea : Nat → Nat → Int32) (xf : Nat → Int32) (xa : Nat → Nat → Int32) (cf : Nat → Int32) (p0 : Int32)  (g0 : 0 ≤ lo) (g1 : hi ≤ (pf 13).toInt) (g2 : (pf 13).toInt ≤ 2100) (g3 : (tf 6).toInt ≤ 2049) (g4 : (cf 38).toInt = nf) (g5 : 0 ≤ nf) (g6 : 0 ≤ (cf 59).toInt) (g7 : (cf 59).toInt ≤ 4200) (htk : TkI tf ta) (hft : FnT (tf 6).toInt na ca (cf 38).toInt) (hfp : FnP na ca nf) (han : Ann na ma0 ma) (hts : Ts (Gk ta ca na ma0 ns ys nf) na ma vl vh V) (hor : (p0 : Int32).toInt < 0 ∨ (EcV ta (tf 6).toInt na ma0 d lo hi p0 ∧ V p0.toNatClampNeg 0)) : MetV l y_Mpg_raise b_Mpg_raise 3 D cs (2 * d + 9) (100 * d + 300) (0) (0) [.ref h, .int p0] [wdP cs h r g tf ta pf na ma wa cf ca ef ea xf xa] (oX (fun A U H => (oP A g U H)) [wdP cs h r g tf ta pf na ma wa cf ca ef ea xf xa]) (fun ps => ∃ (cf' : Nat → Int32), (ps = [wdP cs h r g tf ta pf na ma wa cf' ca ef ea xf xa]) ∧ (KpT cf cf') ∧ ((cf 59).toInt ≤ (cf' 59).toInt) ∧ ((cf' 59).toInt ≤ 4200) ∧ ((cf' 30).toInt = (cf 30).toInt) ∧ (HgO na ma0 ma (tkl na ma0 ca) d p0 (cf' 59).toInt) ∧ (R_mp_raise na ma ca p0 cf cf')) := by
  refine px_enter (by decide) (Nat.le_of_ble_eq_true rfl) ?_
  intro p e s m below meth c A ls hAe S hr hlk hnm hA hT hX hw hl
  have hl : lv_has ls 3 [(0, .ref h), (1, .int p0)] := hl
  have lp0 := Int32.le_toInt p0
  have up0 := Int32.toInt_lt p0
  have cst0 : (0 : Int32).toInt = 0 := rfl
  have hX : (fun A U H => (oP A g U H)) A s s.heap := by rw [hAe]; exact hX
  have hP := hX
  have hZ := hP.1
  have hF0 := hP.2.1
  have hkp : KpT cf cf := KpT.rf
  have hf11 := hft.1
  refine lv_iload_n S.x S.b d_Mpg_raise_0 rfl (lv_at hl 1 rfl) ?_
  refine lv_if_ge (tgt := 8) S.x S.b d_Mpg_raise_1 (by decide) (fun c1 => ?_) (fun c1 => ?_)
  · have nc1 : (0 : Int) ≤ p0.toInt := (i_le (x := 0) (y := p0)).mp c1
    refine lv_aload_n S.x S.b d_Mpg_raise_8 rfl (lv_at hl 0 rfl) ?_
    refine lv_iload_n S.x S.b d_Mpg_raise_9 rfl (lv_at hl 1 rfl) ?_
    obtain ⟨hec_p0, hvn_p0⟩ : EcV ta (tf 6).toInt na ma0 d lo hi p0 ∧ V p0.toNatClampNeg 0 := hor.elim (fun q => absurd q (by omega)) id; have hrg := EcV.rng hec_p0
    first | refine px_calli (pr := []) (px_runV (As := [.int p0]) (rest := []) S (c_S_height l D cs ma0 ys ns nf d lo hi V vl vh h r g tf ta pf na ma wa cf ca ef ea xf xa p0  (show 0 ≤ lo from g0) (show hi ≤ (pf 13).toInt from g1) (show (pf 13).toInt ≤ 2100 from g2) (show (tf 6).toInt ≤ 2049 from g3) (show (cf 38).toInt = nf from g4) (show 0 ≤ nf from g5) htk (FnT.eq hft (by omega)) hfp han hts hec_p0 hvn_p0 _) hT (pr := []) (pcs := [wdP cs h r g tf ta pf na ma wa cf ca ef ea xf xa]) hw (oX_call (P := (fun A U H => (oP A g U H))) (pr := []) oG_P hw hA hP) (px_recv hT hw 0 0 rfl rfl rfl) m13_65 m13_62 m13_64 ms_13_13 m1_21 q_Mpg_height ⟨show (2 * d + 8) + 1 ≤ (2 * d + 9) from (oz_cefed573d4), show 8 + (12 + 11) + (100 * d + 260) ≤ (100 * d + 300) from (oz_9562900b6f)⟩ hl.1 rfl (Nat.le_of_ble_eq_true rfl) d_Mpg_raise_10 ⟨Nat.le_of_ble_eq_true rfl, Nat.le_of_ble_eq_true rfl⟩) hw hA (fun v4 p3 H locs hp3 hw => ?_) | (refine px_calli (pr := []) (px_runV (As := [.int p0]) (rest := []) S (c_S_height l D cs ma0 ys ns nf d lo hi V vl vh h r g tf ta pf na ma wa cf ca ef ea xf xa p0  (show 0 ≤ lo from by first | exact g0 | omega) (show hi ≤ (pf 13).toInt from by first | exact g1 | omega) (show (pf 13).toInt ≤ 2100 from by first | exact g2 | omega) (show (tf 6).toInt ≤ 2049 from by first | exact g3 | omega) (show (cf 38).toInt = nf from by first | exact g4 | omega) (show 0 ≤ nf from by first | exact g5 | omega) htk (FnT.eq hft (by omega)) hfp han hts hec_p0 hvn_p0 _) hT (pr := []) (pcs := [wdP cs h r g tf ta pf na ma wa cf ca ef ea xf xa]) hw (oX_call (P := (fun A U H => (oP A g U H))) (pr := []) oG_P hw hA hP) (px_recv hT hw 0 0 rfl rfl rfl) m13_65 m13_62 m13_64 ms_13_13 m1_21 q_Mpg_height ⟨show (2 * d + 8) + 1 ≤ (2 * d + 9) from (by first | exact oz_cefed573d4 | omega), show 8 + (12 + 11) + (100 * d + 260) ≤ (100 * d + 300) from (by first | exact oz_9562900b6f | omega)⟩ hl.1 rfl (Nat.le_of_ble_eq_true rfl) d_Mpg_raise_10 ⟨Nat.le_of_ble_eq_true rfl, Nat.le_of_ble_eq_true rfl⟩) hw hA (fun v4 p3 H locs hp3 hw => ?_))
    obtain ⟨rfl, e5, e6, e7, e8⟩ := hp3
    have e5 : 1 ≤ v4.toInt := e5
    have e6 : v4.toInt ≤ 2 * (hi - lo) := e6
    have e7 : HgB na ma0 ma (tkl na ma0 ca) d p0 v4.toInt := e7
    have e8 : RL_mp_height d na ma ca p0 v4 := e8
    have e8X : RX_mp_height na ma ca p0 v4 := ⟨d, e8⟩
    have lv4 := Int32.le_toInt v4
    have uv4 := Int32.toInt_lt v4
    refine lv_istore_n (lv' := [(2, .int v4), (0, .ref h), (1, .int p0)]) S.x S.b d_Mpg_raise_13 rfl hl (by decide) rfl (fun ls hl => ?_)
    refine lv_aload_n S.x S.b d_Mpg_raise_14 rfl (lv_at hl 1 rfl) ?_
    refine lv_iload_n S.x S.b d_Mpg_raise_15 rfl (lv_at hl 0 rfl) ?_
    refine lv_aload_n S.x S.b d_Mpg_raise_16 rfl (lv_at hl 1 rfl) ?_
    refine gP_59 (v := (cf 59)) S hT hw 0 rfl rfl m10_56 d_Mpg_raise_17 ?_
    refine lv_icmp_le (tgt := 27) S.x S.b d_Mpg_raise_20 (by decide) (fun c9 => ?_) (fun c9 => ?_)
    · have nc9 : v4.toInt ≤ (cf 59).toInt := (i_le (x := v4) (y := (cf 59))).mp c9
      refine lv_aload_n S.x S.b d_Mpg_raise_27 rfl (lv_at hl 1 rfl) ?_
      refine gP_59 (v := (cf 59)) S hT hw 0 rfl rfl m10_56 d_Mpg_raise_28 ?_
      refine pP_59 S hT hw 0 rfl m10_56 rfl rfl rfl d_Mpg_raise_31 (ps' := [wdP cs h r g tf ta pf na ma wa (upd cf 59 (cf 59)) ca ef ea xf xa]) rfl (fun H locs hw => ?_)
      first | exact px_vret S hr hlk hAe hw (Nat.le_of_ble_eq_true rfl) (Nat.le_of_ble_eq_true rfl) (⟨(upd cf 59 (cf 59)), rfl, (show KpT cf (upd cf 59 (cf 59)) from (kpt_u hkp)), (show (cf 59).toInt ≤ (cf 59).toInt from oz_1cb5f934a5), (show (cf 59).toInt ≤ 4200 from g7), (show (cf 30).toInt = (cf 30).toInt from rfl), (show HgO na ma0 ma (tkl na ma0 ca) d p0 (cf 59).toInt from (Or.inr (HgB.mono e7 (by omega)))), (show R_mp_raise na ma ca p0 cf (upd cf 59 (cf 59)) from (Or.inl (Or.inl ⟨nc1, v4, e8X, Or.inl ⟨nc9, rfl⟩⟩)))⟩) d_Mpg_raise_34 | (exact px_vret S hr hlk hAe hw (Nat.le_of_ble_eq_true rfl) (Nat.le_of_ble_eq_true rfl) (⟨(upd cf 59 (cf 59)), rfl, (show KpT cf (upd cf 59 (cf 59)) from (kpt_u hkp)), (show (cf 59).toInt ≤ (cf 59).toInt from by first | exact oz_1cb5f934a5 | omega), (show (cf 59).toInt ≤ 4200 from by first | exact g7 | omega), (show (cf 30).toInt = (cf 30).toInt from rfl), (show HgO na ma0 ma (tkl na ma0 ca) d p0 (cf 59).toInt from (Or.inr (HgB.mono e7 (by omega)))), (show R_mp_raise na ma ca p0 cf (upd cf 59 (cf 59)) from (Or.inl (Or.inl ⟨nc1, v4, e8X, Or.inl ⟨nc9, rfl⟩⟩)))⟩) d_Mpg_raise_34)
    · have nc9 : ¬ v4.toInt ≤ (cf 59).toInt := mt (i_le (x := v4) (y := (cf 59))).mpr c9
      refine lv_iload_n S.x S.b d_Mpg_raise_23 rfl (lv_at hl 0 rfl) ?_
      refine lv_goto (tgt := 31) S.x S.b d_Mpg_raise_24 (by decide) ?_
      refine pP_59 S hT hw 0 rfl m10_56 rfl rfl rfl d_Mpg_raise_31 (ps' := [wdP cs h r g tf ta pf na ma wa (upd cf 59 v4) ca ef ea xf xa]) rfl (fun H locs hw => ?_)
      first | exact px_vret S hr hlk hAe hw (Nat.le_of_ble_eq_true rfl) (Nat.le_of_ble_eq_true rfl) (⟨(upd cf 59 v4), rfl, (show KpT cf (upd cf 59 v4) from (kpt_u hkp)), (show (cf 59).toInt ≤ v4.toInt from (oz_37cf687dd6 nc9)), (show v4.toInt ≤ 4200 from (oz_c2e902baaf e6 g0 g1 g2)), (show (cf 30).toInt = (cf 30).toInt from rfl), (show HgO na ma0 ma (tkl na ma0 ca) d p0 v4.toInt from (Or.inr (HgB.mono e7 (by omega)))), (show R_mp_raise na ma ca p0 cf (upd cf 59 v4) from (Or.inl (Or.inl ⟨nc1, v4, e8X, Or.inr ⟨nc9, rfl⟩⟩)))⟩) d_Mpg_raise_34 | (exact px_vret S hr hlk hAe hw (Nat.le_of_ble_eq_true rfl) (Nat.le_of_ble_eq_true rfl) (⟨(upd cf 59 v4), rfl, (show KpT cf (upd cf 59 v4) from (kpt_u hkp)), (show (cf 59).toInt ≤ v4.toInt from by first | exact oz_37cf687dd6 nc9 | omega), (show v4.toInt ≤ 4200 from by first | exact oz_c2e902baaf e6 g0 g1 g2 | omega), (show (cf 30).toInt = (cf 30).toInt from rfl), (show HgO na ma0 ma (tkl na ma0 ca) d p0 v4.toInt from (Or.inr (HgB.mono e7 (by omega)))), (show R_mp_raise na ma ca p0 cf (upd cf 59 v4) from (Or.inl (Or.inl ⟨nc1, v4, e8X, Or.inr ⟨nc9, rfl⟩⟩)))⟩) d_Mpg_raise_34)
  · have nc1 : ¬ (0 : Int) ≤ p0.toInt := mt (i_le (x := 0) (y := p0)).mpr c1
    refine lv_iconst (v := 0) S.x S.b d_Mpg_raise_4 (by decide) ?_
    refine lv_goto (tgt := 13) S.x S.b d_Mpg_raise_5 (by decide) ?_
    refine lv_istore_n (lv' := [(2, .int 0), (0, .ref h), (1, .int p0)]) S.x S.b d_Mpg_raise_13 rfl hl (by decide) rfl (fun ls hl => ?_)
    refine lv_aload_n S.x S.b d_Mpg_raise_14 rfl (lv_at hl 1 rfl) ?_
    refine lv_iload_n S.x S.b d_Mpg_raise_15 rfl (lv_at hl 0 rfl) ?_
    refine lv_aload_n S.x S.b d_Mpg_raise_16 rfl (lv_at hl 1 rfl) ?_
    refine gP_59 (v := (cf 59)) S hT hw 0 rfl rfl m10_56 d_Mpg_raise_17 ?_
    refine lv_icmp_le (tgt := 27) S.x S.b d_Mpg_raise_20 (by decide) (fun c11 => ?_) (fun c11 => ?_)
    · have nc11 : (0 : Int) ≤ (cf 59).toInt := (i_le (x := 0) (y := (cf 59))).mp c11
      refine lv_aload_n S.x S.b d_Mpg_raise_27 rfl (lv_at hl 1 rfl) ?_
      refine gP_59 (v := (cf 59)) S hT hw 0 rfl rfl m10_56 d_Mpg_raise_28 ?_
      refine pP_59 S hT hw 0 rfl m10_56 rfl rfl rfl d_Mpg_raise_31 (ps' := [wdP cs h r g tf ta pf na ma wa (upd cf 59 (cf 59)) ca ef ea xf xa]) rfl (fun H locs hw => ?_)
      first | exact px_vret S hr hlk hAe hw (Nat.le_of_ble_eq_true rfl) (Nat.le_of_ble_eq_true rfl) (⟨(upd cf 59 (cf 59)), rfl, (show KpT cf (upd cf 59 (cf 59)) from (kpt_u hkp)), (show (cf 59).toInt ≤ (cf 59).toInt from oz_1cb5f934a5), (show (cf 59).toInt ≤ 4200 from g7), (show (cf 30).toInt = (cf 30).toInt from rfl), (show HgO na ma0 ma (tkl na ma0 ca) d p0 (cf 59).toInt from (Or.inl (by omega))), (show R_mp_raise na ma ca p0 cf (upd cf 59 (cf 59)) from (Or.inl (Or.inr ⟨nc1, Or.inl ⟨nc11, rfl⟩⟩)))⟩) d_Mpg_raise_34 | (exact px_vret S hr hlk hAe hw (Nat.le_of_ble_eq_true rfl) (Nat.le_of_ble_eq_true rfl) (⟨(upd cf 59 (cf 59)), rfl, (show KpT cf (upd cf 59 (cf 59)) from (kpt_u hkp)), (show (cf 59).toInt ≤ (cf 59).toInt from by first | exact oz_1cb5f934a5 | omega), (show (cf 59).toInt ≤ 4200 from by first | exact g7 | omega), (show (cf 30).toInt = (cf 30).toInt from rfl), (show HgO na ma0 ma (tkl na ma0 ca) d p0 (cf 59).toInt from (Or.inl (by omega))), (show R_mp_raise na ma ca p0 cf (upd cf 59 (cf 59)) from (Or.inl (Or.inr ⟨nc1, Or.inl ⟨nc11, rfl⟩⟩)))⟩) d_Mpg_raise_34)
    · have nc11 : ¬ (0 : Int) ≤ (cf 59).toInt := mt (i_le (x := 0) (y := (cf 59))).mpr c11
      refine lv_iload_n S.x S.b d_Mpg_raise_23 rfl (lv_at hl 0 rfl) ?_
      refine lv_goto (tgt := 31) S.x S.b d_Mpg_raise_24 (by decide) ?_
      refine pP_59 S hT hw 0 rfl m10_56 rfl rfl rfl d_Mpg_raise_31 (ps' := [wdP cs h r g tf ta pf na ma wa (upd cf 59 0) ca ef ea xf xa]) rfl (fun H locs hw => ?_)
      first | exact px_vret S hr hlk hAe hw (Nat.le_of_ble_eq_true rfl) (Nat.le_of_ble_eq_true rfl) (⟨(upd cf 59 0), rfl, (show KpT cf (upd cf 59 0) from (kpt_u hkp)), (show (cf 59).toInt ≤ (0 : Int) from (oz_8c4e61806b nc11)), (show (0 : Int) ≤ 4200 from oz_abc03e487a), (show (cf 30).toInt = (cf 30).toInt from rfl), (show HgO na ma0 ma (tkl na ma0 ca) d p0 (0 : Int) from (Or.inl (by omega))), (show R_mp_raise na ma ca p0 cf (upd cf 59 0) from (Or.inl (Or.inr ⟨nc1, Or.inr ⟨nc11, rfl⟩⟩)))⟩) d_Mpg_raise_34 | (exact px_vret S hr hlk hAe hw (Nat.le_of_ble_eq_true rfl) (Nat.le_of_ble_eq_true rfl) (⟨(upd cf 59 0), rfl, (show KpT cf (upd cf 59 0) from (kpt_u hkp)), (show (cf 59).toInt ≤ (0 : Int) from by first | exact oz_8c4e61806b nc11 | omega), (show (0 : Int) ≤ 4200 from by first | exact oz_abc03e487a | omega), (show (cf 30).toInt = (cf 30).toInt from rfl), (show HgO na ma0 ma (tkl na ma0 ca) d p0 (0 : Int) from (Or.inl (by omega))), (show R_mp_raise na ma ca p0 cf (upd cf 59 0) from (Or.inl (Or.inr ⟨nc1, Or.inr ⟨nc11, rfl⟩⟩)))⟩) d_Mpg_raise_34)
abbrev b_Mpg_measureOne : ByteArray := prog_16_method_101_code
def y_Mpg_measureOne : MethodName := ⟨"HomeSystemModel$Program", "measureOne", "(I)V"⟩
theorem d_Mpg_measureOne_0 : decode b_Mpg_measureOne 0 = .ok (.aload_n 0, 1) := by decide +kernel
theorem d_Mpg_measureOne_1 : decode b_Mpg_measureOne 1 = .ok (.getfield 207, 3) := by decide +kernel
theorem d_Mpg_measureOne_4 : decode b_Mpg_measureOne 4 = .ok (.iload_n 1, 1) := by decide +kernel
theorem d_Mpg_measureOne_5 : decode b_Mpg_measureOne 5 = .ok (.baload, 1) := by decide +kernel
theorem d_Mpg_measureOne_6 : decode b_Mpg_measureOne 6 = .ok (.tableswitch 261 20 33 #[70, 261, 83, 96, 144, 144, 144, 186, 238, 261, 261, 261, 261, 83], 70) := by decide +kernel
theorem d_Mpg_measureOne_76 : decode b_Mpg_measureOne 76 = .ok (.aload_n 0, 1) := by decide +kernel
theorem d_Mpg_measureOne_77 : decode b_Mpg_measureOne 77 = .ok (.aload_n 0, 1) := by decide +kernel
theorem d_Mpg_measureOne_78 : decode b_Mpg_measureOne 78 = .ok (.getfield 216, 3) := by decide +kernel
theorem d_Mpg_measureOne_81 : decode b_Mpg_measureOne 81 = .ok (.iload_n 1, 1) := by decide +kernel
theorem d_Mpg_measureOne_82 : decode b_Mpg_measureOne 82 = .ok (.iaload, 1) := by decide +kernel
theorem d_Mpg_measureOne_83 : decode b_Mpg_measureOne 83 = .ok (.invokevirtual 676, 3) := by decide +kernel
theorem d_Mpg_measureOne_86 : decode b_Mpg_measureOne 86 = .ok (.goto 181, 3) := by decide +kernel
theorem d_Mpg_measureOne_89 : decode b_Mpg_measureOne 89 = .ok (.aload_n 0, 1) := by decide +kernel
theorem d_Mpg_measureOne_90 : decode b_Mpg_measureOne 90 = .ok (.aload_n 0, 1) := by decide +kernel
theorem d_Mpg_measureOne_91 : decode b_Mpg_measureOne 91 = .ok (.getfield 216, 3) := by decide +kernel
theorem d_Mpg_measureOne_94 : decode b_Mpg_measureOne 94 = .ok (.iload_n 1, 1) := by decide +kernel
theorem d_Mpg_measureOne_95 : decode b_Mpg_measureOne 95 = .ok (.iaload, 1) := by decide +kernel
theorem d_Mpg_measureOne_96 : decode b_Mpg_measureOne 96 = .ok (.invokevirtual 685, 3) := by decide +kernel
theorem d_Mpg_measureOne_99 : decode b_Mpg_measureOne 99 = .ok (.goto 168, 3) := by decide +kernel
theorem d_Mpg_measureOne_102 : decode b_Mpg_measureOne 102 = .ok (.aload_n 0, 1) := by decide +kernel
theorem d_Mpg_measureOne_103 : decode b_Mpg_measureOne 103 = .ok (.getfield 216, 3) := by decide +kernel
theorem d_Mpg_measureOne_106 : decode b_Mpg_measureOne 106 = .ok (.iload_n 1, 1) := by decide +kernel
theorem d_Mpg_measureOne_107 : decode b_Mpg_measureOne 107 = .ok (.iaload, 1) := by decide +kernel
theorem d_Mpg_measureOne_108 : decode b_Mpg_measureOne 108 = .ok (.istore_n 2, 1) := by decide +kernel
theorem d_Mpg_measureOne_109 : decode b_Mpg_measureOne 109 = .ok (.iload_n 2, 1) := by decide +kernel
theorem d_Mpg_measureOne_110 : decode b_Mpg_measureOne 110 = .ok (.ifCond .lt 37, 3) := by decide +kernel
theorem d_Mpg_measureOne_113 : decode b_Mpg_measureOne 113 = .ok (.aload_n 0, 1) := by decide +kernel
theorem d_Mpg_measureOne_114 : decode b_Mpg_measureOne 114 = .ok (.aload_n 0, 1) := by decide +kernel
theorem d_Mpg_measureOne_115 : decode b_Mpg_measureOne 115 = .ok (.getfield 231, 3) := by decide +kernel
theorem d_Mpg_measureOne_118 : decode b_Mpg_measureOne 118 = .ok (.iload_n 2, 1) := by decide +kernel
theorem d_Mpg_measureOne_119 : decode b_Mpg_measureOne 119 = .ok (.iaload, 1) := by decide +kernel
theorem d_Mpg_measureOne_120 : decode b_Mpg_measureOne 120 = .ok (.iconst 1, 1) := by decide +kernel
theorem d_Mpg_measureOne_121 : decode b_Mpg_measureOne 121 = .ok (.if_icmp .ne 12, 3) := by decide +kernel
theorem d_Mpg_measureOne_124 : decode b_Mpg_measureOne 124 = .ok (.aload_n 0, 1) := by decide +kernel
theorem d_Mpg_measureOne_125 : decode b_Mpg_measureOne 125 = .ok (.getfield 219, 3) := by decide +kernel
theorem d_Mpg_measureOne_128 : decode b_Mpg_measureOne 128 = .ok (.iload_n 2, 1) := by decide +kernel
theorem d_Mpg_measureOne_129 : decode b_Mpg_measureOne 129 = .ok (.iaload, 1) := by decide +kernel
theorem d_Mpg_measureOne_130 : decode b_Mpg_measureOne 130 = .ok (.goto 4, 3) := by decide +kernel
theorem d_Mpg_measureOne_133 : decode b_Mpg_measureOne 133 = .ok (.iconst (-1), 1) := by decide +kernel
theorem d_Mpg_measureOne_134 : decode b_Mpg_measureOne 134 = .ok (.invokevirtual 685, 3) := by decide +kernel
theorem d_Mpg_measureOne_137 : decode b_Mpg_measureOne 137 = .ok (.aload_n 0, 1) := by decide +kernel
theorem d_Mpg_measureOne_138 : decode b_Mpg_measureOne 138 = .ok (.getfield 228, 3) := by decide +kernel
theorem d_Mpg_measureOne_141 : decode b_Mpg_measureOne 141 = .ok (.iload_n 2, 1) := by decide +kernel
theorem d_Mpg_measureOne_142 : decode b_Mpg_measureOne 142 = .ok (.iaload, 1) := by decide +kernel
theorem d_Mpg_measureOne_143 : decode b_Mpg_measureOne 143 = .ok (.istore_n 2, 1) := by decide +kernel
theorem d_Mpg_measureOne_144 : decode b_Mpg_measureOne 144 = .ok (.goto (-35), 3) := by decide +kernel
theorem d_Mpg_measureOne_147 : decode b_Mpg_measureOne 147 = .ok (.goto 120, 3) := by decide +kernel
theorem d_Mpg_measureOne_150 : decode b_Mpg_measureOne 150 = .ok (.aload_n 0, 1) := by decide +kernel
theorem d_Mpg_measureOne_151 : decode b_Mpg_measureOne 151 = .ok (.aload_n 0, 1) := by decide +kernel
theorem d_Mpg_measureOne_152 : decode b_Mpg_measureOne 152 = .ok (.getfield 216, 3) := by decide +kernel
theorem d_Mpg_measureOne_155 : decode b_Mpg_measureOne 155 = .ok (.iload_n 1, 1) := by decide +kernel
theorem d_Mpg_measureOne_156 : decode b_Mpg_measureOne 156 = .ok (.iaload, 1) := by decide +kernel
theorem d_Mpg_measureOne_157 : decode b_Mpg_measureOne 157 = .ok (.invokevirtual 685, 3) := by decide +kernel
theorem d_Mpg_measureOne_160 : decode b_Mpg_measureOne 160 = .ok (.aload_n 0, 1) := by decide +kernel
theorem d_Mpg_measureOne_161 : decode b_Mpg_measureOne 161 = .ok (.aload_n 0, 1) := by decide +kernel
theorem d_Mpg_measureOne_162 : decode b_Mpg_measureOne 162 = .ok (.getfield 219, 3) := by decide +kernel
theorem d_Mpg_measureOne_165 : decode b_Mpg_measureOne 165 = .ok (.iload_n 1, 1) := by decide +kernel
theorem d_Mpg_measureOne_166 : decode b_Mpg_measureOne 166 = .ok (.iaload, 1) := by decide +kernel
theorem d_Mpg_measureOne_167 : decode b_Mpg_measureOne 167 = .ok (.invokevirtual 682, 3) := by decide +kernel
theorem d_Mpg_measureOne_170 : decode b_Mpg_measureOne 170 = .ok (.aload_n 0, 1) := by decide +kernel
theorem d_Mpg_measureOne_171 : decode b_Mpg_measureOne 171 = .ok (.getfield 222, 3) := by decide +kernel
theorem d_Mpg_measureOne_174 : decode b_Mpg_measureOne 174 = .ok (.iload_n 1, 1) := by decide +kernel
theorem d_Mpg_measureOne_175 : decode b_Mpg_measureOne 175 = .ok (.iaload, 1) := by decide +kernel
theorem d_Mpg_measureOne_176 : decode b_Mpg_measureOne 176 = .ok (.ifCond .lt 91, 3) := by decide +kernel
theorem d_Mpg_measureOne_179 : decode b_Mpg_measureOne 179 = .ok (.aload_n 0, 1) := by decide +kernel
theorem d_Mpg_measureOne_180 : decode b_Mpg_measureOne 180 = .ok (.aload_n 0, 1) := by decide +kernel
theorem d_Mpg_measureOne_181 : decode b_Mpg_measureOne 181 = .ok (.getfield 222, 3) := by decide +kernel
theorem d_Mpg_measureOne_184 : decode b_Mpg_measureOne 184 = .ok (.iload_n 1, 1) := by decide +kernel
theorem d_Mpg_measureOne_185 : decode b_Mpg_measureOne 185 = .ok (.iaload, 1) := by decide +kernel
theorem d_Mpg_measureOne_186 : decode b_Mpg_measureOne 186 = .ok (.invokevirtual 682, 3) := by decide +kernel
theorem d_Mpg_measureOne_189 : decode b_Mpg_measureOne 189 = .ok (.goto 78, 3) := by decide +kernel
theorem d_Mpg_measureOne_192 : decode b_Mpg_measureOne 192 = .ok (.aload_n 0, 1) := by decide +kernel
theorem d_Mpg_measureOne_193 : decode b_Mpg_measureOne 193 = .ok (.getfield 216, 3) := by decide +kernel
theorem d_Mpg_measureOne_196 : decode b_Mpg_measureOne 196 = .ok (.iload_n 1, 1) := by decide +kernel
theorem d_Mpg_measureOne_197 : decode b_Mpg_measureOne 197 = .ok (.iaload, 1) := by decide +kernel
theorem d_Mpg_measureOne_198 : decode b_Mpg_measureOne 198 = .ok (.ifCond .lt 13, 3) := by decide +kernel
theorem d_Mpg_measureOne_201 : decode b_Mpg_measureOne 201 = .ok (.aload_n 0, 1) := by decide +kernel
theorem d_Mpg_measureOne_202 : decode b_Mpg_measureOne 202 = .ok (.aload_n 0, 1) := by decide +kernel
theorem d_Mpg_measureOne_203 : decode b_Mpg_measureOne 203 = .ok (.getfield 216, 3) := by decide +kernel
theorem d_Mpg_measureOne_206 : decode b_Mpg_measureOne 206 = .ok (.iload_n 1, 1) := by decide +kernel
theorem d_Mpg_measureOne_207 : decode b_Mpg_measureOne 207 = .ok (.iaload, 1) := by decide +kernel
theorem d_Mpg_measureOne_208 : decode b_Mpg_measureOne 208 = .ok (.invokevirtual 682, 3) := by decide +kernel
theorem d_Mpg_measureOne_211 : decode b_Mpg_measureOne 211 = .ok (.aload_n 0, 1) := by decide +kernel
theorem d_Mpg_measureOne_212 : decode b_Mpg_measureOne 212 = .ok (.aload_n 0, 1) := by decide +kernel
theorem d_Mpg_measureOne_213 : decode b_Mpg_measureOne 213 = .ok (.getfield 219, 3) := by decide +kernel
theorem d_Mpg_measureOne_216 : decode b_Mpg_measureOne 216 = .ok (.iload_n 1, 1) := by decide +kernel
theorem d_Mpg_measureOne_217 : decode b_Mpg_measureOne 217 = .ok (.iaload, 1) := by decide +kernel
theorem d_Mpg_measureOne_218 : decode b_Mpg_measureOne 218 = .ok (.invokevirtual 685, 3) := by decide +kernel
theorem d_Mpg_measureOne_221 : decode b_Mpg_measureOne 221 = .ok (.aload_n 0, 1) := by decide +kernel
theorem d_Mpg_measureOne_222 : decode b_Mpg_measureOne 222 = .ok (.aload_n 0, 1) := by decide +kernel
theorem d_Mpg_measureOne_223 : decode b_Mpg_measureOne 223 = .ok (.getfield 222, 3) := by decide +kernel
theorem d_Mpg_measureOne_226 : decode b_Mpg_measureOne 226 = .ok (.iload_n 1, 1) := by decide +kernel
theorem d_Mpg_measureOne_227 : decode b_Mpg_measureOne 227 = .ok (.iaload, 1) := by decide +kernel
theorem d_Mpg_measureOne_228 : decode b_Mpg_measureOne 228 = .ok (.invokevirtual 685, 3) := by decide +kernel
theorem d_Mpg_measureOne_231 : decode b_Mpg_measureOne 231 = .ok (.aload_n 0, 1) := by decide +kernel
theorem d_Mpg_measureOne_232 : decode b_Mpg_measureOne 232 = .ok (.aload_n 0, 1) := by decide +kernel
theorem d_Mpg_measureOne_233 : decode b_Mpg_measureOne 233 = .ok (.getfield 225, 3) := by decide +kernel
theorem d_Mpg_measureOne_236 : decode b_Mpg_measureOne 236 = .ok (.iload_n 1, 1) := by decide +kernel
theorem d_Mpg_measureOne_237 : decode b_Mpg_measureOne 237 = .ok (.iaload, 1) := by decide +kernel
theorem d_Mpg_measureOne_238 : decode b_Mpg_measureOne 238 = .ok (.invokevirtual 682, 3) := by decide +kernel
theorem d_Mpg_measureOne_241 : decode b_Mpg_measureOne 241 = .ok (.goto 26, 3) := by decide +kernel
theorem d_Mpg_measureOne_244 : decode b_Mpg_measureOne 244 = .ok (.aload_n 0, 1) := by decide +kernel
theorem d_Mpg_measureOne_245 : decode b_Mpg_measureOne 245 = .ok (.aload_n 0, 1) := by decide +kernel
theorem d_Mpg_measureOne_246 : decode b_Mpg_measureOne 246 = .ok (.getfield 216, 3) := by decide +kernel
theorem d_Mpg_measureOne_249 : decode b_Mpg_measureOne 249 = .ok (.iload_n 1, 1) := by decide +kernel
theorem d_Mpg_measureOne_250 : decode b_Mpg_measureOne 250 = .ok (.iaload, 1) := by decide +kernel
theorem d_Mpg_measureOne_251 : decode b_Mpg_measureOne 251 = .ok (.invokevirtual 685, 3) := by decide +kernel
theorem d_Mpg_measureOne_254 : decode b_Mpg_measureOne 254 = .ok (.aload_n 0, 1) := by decide +kernel
theorem d_Mpg_measureOne_255 : decode b_Mpg_measureOne 255 = .ok (.aload_n 0, 1) := by decide +kernel
theorem d_Mpg_measureOne_256 : decode b_Mpg_measureOne 256 = .ok (.getfield 219, 3) := by decide +kernel
theorem d_Mpg_measureOne_259 : decode b_Mpg_measureOne 259 = .ok (.iload_n 1, 1) := by decide +kernel
theorem d_Mpg_measureOne_260 : decode b_Mpg_measureOne 260 = .ok (.iaload, 1) := by decide +kernel
theorem d_Mpg_measureOne_261 : decode b_Mpg_measureOne 261 = .ok (.invokevirtual 676, 3) := by decide +kernel
theorem d_Mpg_measureOne_264 : decode b_Mpg_measureOne 264 = .ok (.goto 3, 3) := by decide +kernel
theorem d_Mpg_measureOne_267 : decode b_Mpg_measureOne 267 = .ok (.return_, 1) := by decide +kernel
theorem q_Mpg_measureOne : px_y y_Mpg_measureOne 1 := by unfold px_y; decide +kernel
def MsC (l : Launch) (D : va_G) (cs : Nat → ClassId) (d : Nat) : Prop := ∀ (ma0 : Nat → Nat → Int32) (ys : Int) (ns : Int) (nf : Int) (lo : Int) (hi : Int) (w : Int) (t : Nat) (V : Nat → Nat → Prop) (vl : Int) (vh : Int) (h : Nat) (r : Nat → Nat) (g : Nat → Nat → Option Nat) (tf : Nat → Int32) (ta : Nat → Nat → Int32) (pf : Nat → Int32) (na : Nat → Nat → Int32) (ma : Nat → Nat → Int32) (wa : Nat → Nat → Int32) (ca : Nat → Nat → Int32) (ef : Nat → Int32) (ea : Nat → Nat → Int32) (xf : Nat → Int32) (xa : Nat → Nat → Int32) (cf : Nat → Int32) (p0 : Int32)  (g0 : 0 ≤ lo) (g1 : hi ≤ (pf 13).toInt) (g2 : (pf 13).toInt ≤ 2100) (g3 : (tf 6).toInt ≤ 2049) (g4 : (cf 38).toInt = nf) (g5 : 0 ≤ nf) (g6 : 0 ≤ (cf 59).toInt) (g7 : (cf 59).toInt ≤ 4200) (g8 : 2 ≤ t) (g9 : t ≤ 4) (htk : TkI tf ta) (hft : FnT (tf 6).toInt na ca (cf 38).toInt) (hfp : FnP na ca nf) (han : Ann na ma0 ma) (hts : Ts (Gk ta ca na ma0 ns ys nf) na ma vl vh V) (hsc : ScV ta (tf 6).toInt na ma0 d lo hi w p0) (hvt : V p0.toNatClampNeg t), MetV l y_Mpg_measureOne b_Mpg_measureOne 3 D cs (5 * d + 14) (220 * d + 460) (0) (0) [.ref h, .int p0] [wdP cs h r g tf ta pf na ma wa cf ca ef ea xf xa] (oX (fun A U H => (oP A g U H)) [wdP cs h r g tf ta pf na ma wa cf ca ef ea xf xa]) (fun ps => ∃ (cf' : Nat → Int32), (ps = [wdP cs h r g tf ta pf na ma wa cf' ca ef ea xf xa]) ∧ (KpT cf cf') ∧ ((cf 59).toInt ≤ (cf' 59).toInt) ∧ ((cf' 59).toInt ≤ 4200) ∧ ((cf' 30).toInt = (cf 30).toInt) ∧ (HsB na ma0 ma (tkl na ma0 ca) d p0 (cf' 59).toInt) ∧ (RL_mp_measureOne d na ma ca p0 cf cf'))
abbrev b_Mpg_measure : ByteArray := prog_16_method_100_code
def y_Mpg_measure : MethodName := ⟨"HomeSystemModel$Program", "measure", "(I)V"⟩
theorem d_Mpg_measure_0 : decode b_Mpg_measure 0 = .ok (.iload_n 1, 1) := by decide +kernel
theorem d_Mpg_measure_1 : decode b_Mpg_measure 1 = .ok (.istore_n 2, 1) := by decide +kernel
theorem d_Mpg_measure_2 : decode b_Mpg_measure 2 = .ok (.iload_n 2, 1) := by decide +kernel
theorem d_Mpg_measure_3 : decode b_Mpg_measure 3 = .ok (.ifCond .lt 18, 3) := by decide +kernel
theorem d_Mpg_measure_6 : decode b_Mpg_measure 6 = .ok (.aload_n 0, 1) := by decide +kernel
theorem d_Mpg_measure_7 : decode b_Mpg_measure 7 = .ok (.iload_n 2, 1) := by decide +kernel
theorem d_Mpg_measure_8 : decode b_Mpg_measure 8 = .ok (.invokevirtual 682, 3) := by decide +kernel
theorem d_Mpg_measure_11 : decode b_Mpg_measure 11 = .ok (.aload_n 0, 1) := by decide +kernel
theorem d_Mpg_measure_12 : decode b_Mpg_measure 12 = .ok (.getfield 228, 3) := by decide +kernel
theorem d_Mpg_measure_15 : decode b_Mpg_measure 15 = .ok (.iload_n 2, 1) := by decide +kernel
theorem d_Mpg_measure_16 : decode b_Mpg_measure 16 = .ok (.iaload, 1) := by decide +kernel
theorem d_Mpg_measure_17 : decode b_Mpg_measure 17 = .ok (.istore_n 2, 1) := by decide +kernel
theorem d_Mpg_measure_18 : decode b_Mpg_measure 18 = .ok (.goto (-16), 3) := by decide +kernel
theorem d_Mpg_measure_21 : decode b_Mpg_measure 21 = .ok (.return_, 1) := by decide +kernel
theorem q_Mpg_measure : px_y y_Mpg_measure 1 := by unfold px_y; decide +kernel
set_option maxHeartbeats 4000000 in
set_option maxRecDepth 100000 in
theorem c_mp_measure (l : Launch) (D : va_G) (cs : Nat → ClassId) (ma0 : Nat → Nat → Int32) (ys : Int) (ns : Int) (nf : Int) (d : Nat) (lo : Int) (hi : Int) (w : Int) (t : Nat) (V : Nat → Nat → Prop) (vl : Int) (vh : Int) (h : Nat) (r : Nat → Nat) (g : Nat → Nat → Option Nat) (tf : Nat → Int32) (ta : Nat → Nat → Int32) (pf : Nat → Int32) (na : Nat → Nat → Int32) (ma : Nat → Nat → Int32) (wa : Nat → Nat → Int32) (ca : Nat → Nat → Int32) (ef : Nat → Int32) (ea : Nat → Nat → Int32) (xf : Nat → Int32) (xa : Nat → Nat → Int32) (cf : Nat → Int32) (p0 : Int32)  (g0 : 0 ≤ lo) (g1 : hi ≤ (pf 13).toInt) (g2 : (pf 13).toInt ≤ 2100) (g3 : (tf 6).toInt ≤ 2049) (g4 : (cf 38).toInt = nf) (g5 : 0 ≤ nf) (g6 : 0 ≤ (cf 59).toInt) (g7 : (cf 59).toInt ≤ 4200) (g8 : lo ≤ hi) (g9 : 0 ≤ w) (g10 : 2 ≤ t) (g11 : t ≤ 4) (htk : TkI tf ta) (hft : FnT (tf 6).toInt na ca (cf 38).toInt) (hfp : FnP na ca nf) (han : Ann na ma0 ma) (hts : Ts (Gk ta ca na ma0 ns ys nf) na ma vl vh V) (hrs : RvS ta (tf 6).toInt na ma0 d lo hi w p0) (hrw : RwV0 na V t p0) (hLQ : MsC l D cs d) : MetV l y_Mpg_measure b_Mpg_measure 3 D cs (5 * d + 15) (220 * d + 500) (0) (0) [.ref h, .int p0] [wdP cs h r g tf ta pf na ma wa cf ca ef ea xf xa] (oX (fun A U H => (oP A g U H)) [wdP cs h r g tf ta pf na ma wa cf ca ef ea xf xa]) (fun ps => ∃ (cf' : Nat → Int32), (ps = [wdP cs h r g tf ta pf na ma wa cf' ca ef ea xf xa]) ∧ (KpT cf cf') ∧ ((cf 59).toInt ≤ (cf' 59).toInt) ∧ ((cf' 59).toInt ≤ 4200) ∧ ((cf' 30).toInt = (cf 30).toInt) ∧ (HsW na ma0 ma (tkl na ma0 ca) d p0 (cf' 59).toInt) ∧ (R_mp_measure (RL_mp_measureOne d) na ma ca p0 cf cf')) := by
  refine px_enter (by decide) (Nat.le_of_ble_eq_true rfl) ?_
  intro p e s m below meth c A ls hAe S hr hlk hnm hA hT hX hw hl
  have hl : lv_has ls 3 [(0, .ref h), (1, .int p0)] := hl
  have lp0 := Int32.le_toInt p0
  have up0 := Int32.toInt_lt p0
  have hX : (fun A U H => (oP A g U H)) A s s.heap := by rw [hAe]; exact hX
  have hP := hX
  have hZ := hP.1
  have hF0 := hP.2.1
  have hkp : KpT cf cf := KpT.rf
  have hf11 := hft.1
  have J2 : ∀ (n_2 : Nat) (cf_2 : Nat → Int32) (mid_2 : Int) (wr_2 : Int) (x2_2 : Int32) (H : Heap) (locs : List Loc) (ls : Array Slot), (KpT cf cf_2) → ((cf 59).toInt ≤ (cf_2 59).toInt) → ((cf_2 59).toInt ≤ 4200) → ((cf_2 30).toInt = (cf 30).toInt) → (lo ≤ mid_2) → (mid_2 ≤ hi) → (0 ≤ wr_2) → (RvS ta (tf 6).toInt na ma0 d mid_2 hi wr_2 x2_2) → (RwV0 na V t x2_2) → (HsR na ma0 ma (tkl na ma0 ca) d p0 x2_2 (cf_2 59).toInt) → (K_mp_measure_2 (RL_mp_measureOne d) na ma ca p0 cf cf_2 x2_2) → hi - mid_2 < (n_2 : Int) → pw D A s.heap H locs [wdP cs h r g tf ta pf na ma wa cf_2 ca ef ea xf xa] → lv_has ls 3 [(0, .ref h), (1, .int p0), (2, .int x2_2)] → W p l e { frames := (5 * d + 15), cells := 0, slots := 0, locals := (220 * d + 500) } s m [.ref h, .int p0].toArray below meth c H locs 0 0 (MQ below (va_Qv (fun ps => ∃ (cf' : Nat → Int32), (ps = [wdP cs h r g tf ta pf na ma wa cf' ca ef ea xf xa]) ∧ (KpT cf cf') ∧ ((cf 59).toInt ≤ (cf' 59).toInt) ∧ ((cf' 59).toInt ≤ 4200) ∧ ((cf' 30).toInt = (cf 30).toInt) ∧ (HsW na ma0 ma (tkl na ma0 ca) d p0 (cf' 59).toInt) ∧ (R_mp_measure (RL_mp_measureOne d) na ma ca p0 cf cf')) (pc_B D (va_A ([wdP cs h r g tf ta pf na ma wa cf ca ef ea xf xa] : List va_W).flatten s.heap.size)) (va_A ([wdP cs h r g tf ta pf na ma wa cf ca ef ea xf xa] : List va_W).flatten s.heap.size)) [.ref h, .int p0].toArray s 0 0 A) (F0 m 2 ls []) := by
    intro  n_2
    induction n_2 with
    | zero =>
      intro cf_2 mid_2 wr_2 x2_2 H locs ls k2_0 k2_1 k2_2 k2_3 k2_4 k2_5 k2_6 k2_7 k2_8 k2_9 k2_10 hm hw hl
      have lx2_2 := Int32.le_toInt x2_2
      have ux2_2 := Int32.toInt_lt x2_2
      have hkp := k2_0
      have hkf : (cf_2 38).toInt = (cf 38).toInt := congrArg Int32.toInt (hkp 38 (by decide))
      have hrs := k2_7
      have hrw := k2_8
      have hsq := k2_9
      exact absurd hm (by omega)
    | succ n_2 ih2 =>
      intro cf_2 mid_2 wr_2 x2_2 H locs ls k2_0 k2_1 k2_2 k2_3 k2_4 k2_5 k2_6 k2_7 k2_8 k2_9 k2_10 hm hw hl
      have lx2_2 := Int32.le_toInt x2_2
      have ux2_2 := Int32.toInt_lt x2_2
      have hkp := k2_0
      have hkf : (cf_2 38).toInt = (cf 38).toInt := congrArg Int32.toInt (hkp 38 (by decide))
      have hrs := k2_7
      have hrw := k2_8
      have hsq := k2_9
      refine lv_iload_n S.x S.b d_Mpg_measure_2 rfl (lv_at hl 2 rfl) ?_
      refine lv_if_lt (tgt := 21) S.x S.b d_Mpg_measure_3 (by decide) (fun c1 => ?_) (fun c1 => ?_)
      · have nc1 : x2_2.toInt < (0 : Int) := (i_lt (x := x2_2) (y := 0)).mp c1
        first | exact px_vret S hr hlk hAe hw (Nat.le_of_ble_eq_true rfl) (Nat.le_of_ble_eq_true rfl) (⟨cf_2, rfl, (show KpT cf cf_2 from hkp), (show (cf 59).toInt ≤ (cf_2 59).toInt from k2_1), (show (cf_2 59).toInt ≤ 4200 from k2_2), (show (cf_2 30).toInt = (cf 30).toInt from k2_3), (show HsW na ma0 ma (tkl na ma0 ca) d p0 (cf_2 59).toInt from (HsR.w hsq (by omega))), (show R_mp_measure (RL_mp_measureOne d) na ma ca p0 cf cf_2 from (k2_10 _ 1 (Or.inr (Or.inl ⟨rfl, x2_2, rfl, rfl, rfl, rfl, rfl, Or.inl ⟨nc1, rfl⟩⟩))))⟩) d_Mpg_measure_21 | (exact px_vret S hr hlk hAe hw (Nat.le_of_ble_eq_true rfl) (Nat.le_of_ble_eq_true rfl) (⟨cf_2, rfl, (show KpT cf cf_2 from hkp), (show (cf 59).toInt ≤ (cf_2 59).toInt from by first | exact k2_1 | omega), (show (cf_2 59).toInt ≤ 4200 from by first | exact k2_2 | omega), (show (cf_2 30).toInt = (cf 30).toInt from by first | exact k2_3 | omega), (show HsW na ma0 ma (tkl na ma0 ca) d p0 (cf_2 59).toInt from (HsR.w hsq (by omega))), (show R_mp_measure (RL_mp_measureOne d) na ma ca p0 cf cf_2 from (k2_10 _ 1 (Or.inr (Or.inl ⟨rfl, x2_2, rfl, rfl, rfl, rfl, rfl, Or.inl ⟨nc1, rfl⟩⟩))))⟩) d_Mpg_measure_21)
      · have nc1 : ¬ x2_2.toInt < (0 : Int) := mt (i_lt (x := x2_2) (y := 0)).mpr c1
        refine lv_aload_n S.x S.b d_Mpg_measure_6 rfl (lv_at hl 0 rfl) ?_
        obtain ⟨md3, wv4, hm1_md3, hm2_md3, hm3_md3, hsc_x2_2, hx3_md3, hrs2⟩ := RvE.step hrs (by omega); have hwp2 := RvE.wp hrs2; have hsr_x2_2 := ScV.rng hsc_x2_2; obtain ⟨hvt_x2_2, hrw2⟩ := RwV0.go hrw (by omega) rfl
        refine lv_iload_n S.x S.b d_Mpg_measure_7 rfl (lv_at hl 2 rfl) ?_
        first | refine px_callv (pr := []) (px_runV (As := [.int x2_2]) (rest := []) S (hLQ ma0 ys ns nf mid_2 md3 wv4 t V vl vh h r g tf ta pf na ma wa ca ef ea xf xa cf_2 x2_2 (show 0 ≤ mid_2 from (oz_16d7fa9f32 k2_4 g0)) (show md3 ≤ (pf 13).toInt from (oz_bbb5b20c1a g1 hm2_md3)) (show (pf 13).toInt ≤ 2100 from g2) (show (tf 6).toInt ≤ 2049 from g3) (show (cf_2 38).toInt = nf from (oz_1687f4cc65 g4 hkf)) (show 0 ≤ nf from g5) (show 0 ≤ (cf_2 59).toInt from (oz_16d7fa9f32 k2_1 g6)) (show (cf_2 59).toInt ≤ 4200 from k2_2) (show 2 ≤ t from g10) (show t ≤ 4 from g11) htk (FnT.eq hft (by omega)) hfp han hts hsc_x2_2 hvt_x2_2 _) hT (pr := []) (pcs := [wdP cs h r g tf ta pf na ma wa cf_2 ca ef ea xf xa]) hw (oX_call (P := (fun A U H => (oP A g U H))) (pr := []) oG_P hw hA hP) (px_recv hT hw 0 0 rfl rfl rfl) m13_57 m13_54 m13_56 ms_13_11 m1_21 q_Mpg_measureOne ⟨show (5 * d + 14) + 1 ≤ (5 * d + 15) from (oz_3f68f4e51e), show 8 + (3 + 11) + (220 * d + 460) ≤ (220 * d + 500) from (oz_b480ceabe2)⟩ hl.1 rfl (Nat.le_of_ble_eq_true rfl) d_Mpg_measure_8 ⟨Nat.le_of_ble_eq_true rfl, Nat.le_of_ble_eq_true rfl⟩) hw hA (fun p7 H locs hp7 hw => ?_) | (refine px_callv (pr := []) (px_runV (As := [.int x2_2]) (rest := []) S (hLQ ma0 ys ns nf mid_2 md3 wv4 t V vl vh h r g tf ta pf na ma wa ca ef ea xf xa cf_2 x2_2 (show 0 ≤ mid_2 from by first | exact oz_16d7fa9f32 k2_4 g0 | omega) (show md3 ≤ (pf 13).toInt from by first | exact oz_bbb5b20c1a g1 hm2_md3 | omega) (show (pf 13).toInt ≤ 2100 from by first | exact g2 | omega) (show (tf 6).toInt ≤ 2049 from by first | exact g3 | omega) (show (cf_2 38).toInt = nf from by first | exact oz_1687f4cc65 g4 hkf | omega) (show 0 ≤ nf from by first | exact g5 | omega) (show 0 ≤ (cf_2 59).toInt from by first | exact oz_16d7fa9f32 k2_1 g6 | omega) (show (cf_2 59).toInt ≤ 4200 from by first | exact k2_2 | omega) (show 2 ≤ t from by first | exact g10 | omega) (show t ≤ 4 from by first | exact g11 | omega) htk (FnT.eq hft (by omega)) hfp han hts hsc_x2_2 hvt_x2_2 _) hT (pr := []) (pcs := [wdP cs h r g tf ta pf na ma wa cf_2 ca ef ea xf xa]) hw (oX_call (P := (fun A U H => (oP A g U H))) (pr := []) oG_P hw hA hP) (px_recv hT hw 0 0 rfl rfl rfl) m13_57 m13_54 m13_56 ms_13_11 m1_21 q_Mpg_measureOne ⟨show (5 * d + 14) + 1 ≤ (5 * d + 15) from (by first | exact oz_3f68f4e51e | omega), show 8 + (3 + 11) + (220 * d + 460) ≤ (220 * d + 500) from (by first | exact oz_b480ceabe2 | omega)⟩ hl.1 rfl (Nat.le_of_ble_eq_true rfl) d_Mpg_measure_8 ⟨Nat.le_of_ble_eq_true rfl, Nat.le_of_ble_eq_true rfl⟩) hw hA (fun p7 H locs hp7 hw => ?_))
        obtain ⟨cf6, rfl, e9, e10, e11, e12, e13, e14⟩ := hp7
        have e9 : KpT cf_2 cf6 := e9
        have hkp := hkp.tr e9
        have hkf_e9 : (cf6 38).toInt = (cf 38).toInt := congrArg Int32.toInt (hkp 38 (by decide))
        have e10 : (cf_2 59).toInt ≤ (cf6 59).toInt := e10
        have e11 : (cf6 59).toInt ≤ 4200 := e11
        have e12 : (cf6 30).toInt = (cf_2 30).toInt := e12
        have e13 : HsB na ma0 ma (tkl na ma0 ca) d x2_2 (cf6 59).toInt := e13
        have e14 : RL_mp_measureOne d na ma ca x2_2 cf_2 cf6 := e14
        refine lv_aload_n S.x S.b d_Mpg_measure_11 rfl (lv_at hl 0 rfl) ?_
        refine gP_21 S hT hw 0 rfl m10_7 d_Mpg_measure_12 ?_
        refine lv_iload_n S.x S.b d_Mpg_measure_15 rfl (lv_at hl 2 rfl) ?_
        refine px_iald S hT hw 0 17 (n := 2100) (f := (na 21)) rfl gp_21 (x := x2_2) (vp_in_iff.mpr (by constructor <;> omega)) d_Mpg_measure_16 ?_
        refine lv_topi (fun z15 ez15 => ?_)
        have lz15 := Int32.le_toInt z15
        have uz15 := Int32.toInt_lt z15
        refine lv_istore_n (lv' := [(2, .int z15), (0, .ref h), (1, .int p0)]) S.x S.b d_Mpg_measure_17 rfl hl (by decide) rfl (fun ls hl => ?_)
        refine lv_goto (tgt := 2) S.x S.b d_Mpg_measure_18 (by decide) ?_
        first | exact ih2 cf6 md3 (wr_2 - wv4) z15 _ _ ls (show KpT cf cf6 from hkp) (show (cf 59).toInt ≤ (cf6 59).toInt from (oz_be764f19f0 k2_1 e10)) (show (cf6 59).toInt ≤ 4200 from e11) (show (cf6 30).toInt = (cf 30).toInt from (oz_1687f4cc65 k2_3 e12)) (show lo ≤ md3 from hm1_md3) (show md3 ≤ hi from hm2_md3) (show 0 ≤ (wr_2 - wv4) from by omega) (show RvS ta (tf 6).toInt na ma0 d md3 hi (wr_2 - wv4) z15 from (by rw [ez15]; exact hrs2)) (show RwV0 na V t z15 from (by rw [ez15]; exact hrw2)) (show HsR na ma0 ma (tkl na ma0 ca) d p0 z15 (cf6 59).toInt from (HsR.nx hsq (by omega) e13 ez15)) (show K_mp_measure_2 (RL_mp_measureOne d) na ma ca p0 cf cf6 z15 from (fun y_f0 k hE => k2_10 y_f0 (k + 1) (Or.inr (Or.inl ⟨rfl, x2_2, rfl, rfl, rfl, rfl, rfl, Or.inr ⟨nc1, cf6, e14, z15, ez15, hE⟩⟩)))) (show hi - md3 < (n_2 : Int) from by omega) hw (lv_sub hl [1, 2, 0] rfl) | (exact ih2 cf6 md3 (wr_2 - wv4) z15 _ _ ls (show KpT cf cf6 from hkp) (show (cf 59).toInt ≤ (cf6 59).toInt from by first | exact oz_be764f19f0 k2_1 e10 | omega) (show (cf6 59).toInt ≤ 4200 from by first | exact e11 | omega) (show (cf6 30).toInt = (cf 30).toInt from by first | exact oz_1687f4cc65 k2_3 e12 | omega) (show lo ≤ md3 from by first | exact hm1_md3 | omega) (show md3 ≤ hi from by first | exact hm2_md3 | omega) (show 0 ≤ (wr_2 - wv4) from by omega) (show RvS ta (tf 6).toInt na ma0 d md3 hi (wr_2 - wv4) z15 from (by rw [ez15]; exact hrs2)) (show RwV0 na V t z15 from (by rw [ez15]; exact hrw2)) (show HsR na ma0 ma (tkl na ma0 ca) d p0 z15 (cf6 59).toInt from (HsR.nx hsq (by omega) e13 ez15)) (show K_mp_measure_2 (RL_mp_measureOne d) na ma ca p0 cf cf6 z15 from (fun y_f0 k hE => k2_10 y_f0 (k + 1) (Or.inr (Or.inl ⟨rfl, x2_2, rfl, rfl, rfl, rfl, rfl, Or.inr ⟨nc1, cf6, e14, z15, ez15, hE⟩⟩)))) (show hi - md3 < (n_2 : Int) from by omega) hw (lv_sub hl [1, 2, 0] rfl))
  refine lv_iload_n S.x S.b d_Mpg_measure_0 rfl (lv_at hl 1 rfl) ?_
  refine lv_istore_n (lv' := [(2, .int p0), (0, .ref h), (1, .int p0)]) S.x S.b d_Mpg_measure_1 rfl hl (by decide) rfl (fun ls hl => ?_)
  first | exact J2 ((hi - lo).toNat + 1) cf lo w p0 _ _ ls (show KpT cf cf from hkp) (show (cf 59).toInt ≤ (cf 59).toInt from oz_1cb5f934a5) (show (cf 59).toInt ≤ 4200 from g7) (show (cf 30).toInt = (cf 30).toInt from rfl) (show lo ≤ lo from oz_1cb5f934a5) (show lo ≤ hi from g8) (show 0 ≤ w from g9) (show RvS ta (tf 6).toInt na ma0 d lo hi w p0 from hrs) (show RwV0 na V t p0 from hrw) (show HsR na ma0 ma (tkl na ma0 ca) d p0 p0 (cf 59).toInt from ⟨0, rfl⟩) (show K_mp_measure_2 (RL_mp_measureOne d) na ma ca p0 cf cf p0 from (fun y_f0 k hE => Exists.intro (k + 1) (Or.inl ⟨rfl, hE⟩))) (show hi - lo < ((((hi - lo).toNat + 1 : Nat) : Int) : Int) from oz_natlt) hw (lv_sub hl [1, 2, 0] rfl) | (exact J2 ((hi - lo).toNat + 1) cf lo w p0 _ _ ls (show KpT cf cf from hkp) (show (cf 59).toInt ≤ (cf 59).toInt from by first | exact oz_1cb5f934a5 | omega) (show (cf 59).toInt ≤ 4200 from by first | exact g7 | omega) (show (cf 30).toInt = (cf 30).toInt from rfl) (show lo ≤ lo from by first | exact oz_1cb5f934a5 | omega) (show lo ≤ hi from by first | exact g8 | omega) (show 0 ≤ w from by first | exact g9 | omega) (show RvS ta (tf 6).toInt na ma0 d lo hi w p0 from hrs) (show RwV0 na V t p0 from hrw) (show HsR na ma0 ma (tkl na ma0 ca) d p0 p0 (cf 59).toInt from ⟨0, rfl⟩) (show K_mp_measure_2 (RL_mp_measureOne d) na ma ca p0 cf cf p0 from (fun y_f0 k hE => Exists.intro (k + 1) (Or.inl ⟨rfl, hE⟩))) (show hi - lo < ((((hi - lo).toNat + 1 : Nat) : Int) : Int) from by first | exact oz_natlt | omega) hw (lv_sub hl [1, 2, 0] rfl))
