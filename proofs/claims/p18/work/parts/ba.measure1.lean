theorem oz_cb83fcf286 {n0 : Nat}  : (2 * n0 + 9) + 1 ≤ (5 * (n0 + 1) + 14) := by omega
theorem oz_7ec2de144a {n0 : Nat}  : 8 + (3 + 11) + (100 * n0 + 300) ≤ (220 * (n0 + 1) + 460) := by omega
theorem oz_ee2e824722 {n0 : Nat}  : (5 * n0 + 15) + 1 ≤ (5 * (n0 + 1) + 14) := by omega
theorem oz_09d075cca2 {n0 : Nat}  : 8 + (3 + 11) + (220 * n0 + 500) ≤ (220 * (n0 + 1) + 460) := by omega
theorem oz_e908e9cca0 {n0 : Nat}  : (5 * n0 + 14) + 1 ≤ (5 * (n0 + 1) + 14) := by omega
theorem oz_94fb430e83 {n0 : Nat}  : 8 + (3 + 11) + (220 * n0 + 460) ≤ (220 * (n0 + 1) + 460) := by omega
theorem oz_0764df89e1 {a0 a1 a2 a3 : Int} (h0 : a1 ≤ a0) (h1 : a2 ≤ a1) (h2 : a3 ≤ a2) (h3 : 0 ≤ a3) : 0 ≤ a0 := by omega
theorem oz_9abb61197c {a0 a1 a2 a3 a4 : Int} (h0 : a0 ≤ a2) (h1 : a3 ≤ a1) (h2 : a2 ≤ a4) (h3 : a4 ≤ a3) : a0 ≤ a1 := by omega
theorem m13_58 : Cond.methodLink "HomeSystemModel$Program" 685 ⟨"HomeSystemModel$Program", "raise", "(I)V"⟩ ∈ AL := AL_13 (List.mem_of_getElem? (i := 58) rfl) rfl
theorem m13_61 : Cond.code ⟨"HomeSystemModel$Program", "raise", "(I)V"⟩ prog_16_method_99_code 3 (Option.none : Option Jvm.ClassFile.FieldType) ∈ AL := AL_13 (List.mem_of_getElem? (i := 61) rfl) rfl
theorem ms_13_12 : Cond.selects "HomeSystemModel$Program" ⟨"HomeSystemModel$Program", "raise", "(I)V"⟩ ⟨"HomeSystemModel$Program", "raise", "(I)V"⟩ ∈ AL := AL_p (q := (⟨"HomeSystemModel$Program", "raise", "(I)V"⟩, 69)) (by unfold lw_privs; exact List.mem_append_right _ (List.mem_append_right _ (List.mem_append_right _ (List.mem_append_right _ (List.mem_append_right _ (List.mem_append_right _ (List.mem_append_right _ (List.mem_append_right _ (List.mem_append_right _ (List.mem_append_right _ (List.mem_append_right _ (List.mem_append_right _ (List.mem_append_left _ (List.mem_of_getElem? (i := 12) rfl))))))))))))))
theorem m13_60 : Cond.instanceMethod ⟨"HomeSystemModel$Program", "raise", "(I)V"⟩ ∈ AL := AL_13 (List.mem_of_getElem? (i := 60) rfl) rfl
theorem m13_50 : Cond.methodLink "HomeSystemModel$Program" 676 ⟨"HomeSystemModel$Program", "measure", "(I)V"⟩ ∈ AL := AL_13 (List.mem_of_getElem? (i := 50) rfl) rfl
theorem m13_53 : Cond.code ⟨"HomeSystemModel$Program", "measure", "(I)V"⟩ prog_16_method_100_code 3 (Option.none : Option Jvm.ClassFile.FieldType) ∈ AL := AL_13 (List.mem_of_getElem? (i := 53) rfl) rfl
theorem ms_13_10 : Cond.selects "HomeSystemModel$Program" ⟨"HomeSystemModel$Program", "measure", "(I)V"⟩ ⟨"HomeSystemModel$Program", "measure", "(I)V"⟩ ∈ AL := AL_p (q := (⟨"HomeSystemModel$Program", "measure", "(I)V"⟩, 69)) (by unfold lw_privs; exact List.mem_append_right _ (List.mem_append_right _ (List.mem_append_right _ (List.mem_append_right _ (List.mem_append_right _ (List.mem_append_right _ (List.mem_append_right _ (List.mem_append_right _ (List.mem_append_right _ (List.mem_append_right _ (List.mem_append_right _ (List.mem_append_right _ (List.mem_append_left _ (List.mem_of_getElem? (i := 10) rfl))))))))))))))
theorem m13_52 : Cond.instanceMethod ⟨"HomeSystemModel$Program", "measure", "(I)V"⟩ ∈ AL := AL_13 (List.mem_of_getElem? (i := 52) rfl) rfl
set_option maxHeartbeats 4000000 in
set_option maxRecDepth 100000 in
theorem c_mp_measureOne (l : Launch) (D : va_G) (cs : Nat → ClassId) (ma0 : Nat → Nat → Int32) (ys : Int) (ns : Int) (nf : Int) (d : Nat) (lo : Int) (hi : Int) (w : Int) (t : Nat) (V : Nat → Nat → Prop) (vl : Int) (vh : Int) (h : Nat) (r : Nat → Nat) (g : Nat → Nat → Option Nat) (tf : Nat → Int32) (ta : Nat → Nat → Int32) (pf : Nat → Int32) (na : Nat → Nat → Int32) (ma : Nat → Nat → Int32) (wa : Nat → Nat → Int32) (ca : Nat → Nat → Int32) (ef : Nat → Int32) (ea : Nat → Nat → Int32) (xf : Nat → Int32) (xa : Nat → Nat → Int32) (cf : Nat → Int32) (p0 : Int32)  (g0 : 0 ≤ lo) (g1 : hi ≤ (pf 13).toInt) (g2 : (pf 13).toInt ≤ 2100) (g3 : (tf 6).toInt ≤ 2049) (g4 : (cf 38).toInt = nf) (g5 : 0 ≤ nf) (g6 : 0 ≤ (cf 59).toInt) (g7 : (cf 59).toInt ≤ 4200) (g8 : 2 ≤ t) (g9 : t ≤ 4) (htk : TkI tf ta) (hft : FnT (tf 6).toInt na ca (cf 38).toInt) (hfp : FnP na ca nf) (han : Ann na ma0 ma) (hts : Ts (Gk ta ca na ma0 ns ys nf) na ma vl vh V) (hsc : ScV ta (tf 6).toInt na ma0 (d + 1) lo hi w p0) (hvt : V p0.toNatClampNeg t) (hLQ : MsC l D cs d) : MetV l y_Mpg_measureOne b_Mpg_measureOne 3 D cs (5 * (d + 1) + 14) (220 * (d + 1) + 460) (0) (0) [.ref h, .int p0] [wdP cs h r g tf ta pf na ma wa cf ca ef ea xf xa] (oX (fun A U H => (oP A g U H)) [wdP cs h r g tf ta pf na ma wa cf ca ef ea xf xa]) (fun ps => ∃ (cf' : Nat → Int32), (ps = [wdP cs h r g tf ta pf na ma wa cf' ca ef ea xf xa]) ∧ (KpT cf cf') ∧ ((cf 59).toInt ≤ (cf' 59).toInt) ∧ ((cf' 59).toInt ≤ 4200) ∧ ((cf' 30).toInt = (cf 30).toInt) ∧ (HsB na ma0 ma (tkl na ma0 ca) (d + 1) p0 (cf' 59).toInt) ∧ (R_mp_measureOne (RL_mp_measureOne d) na ma ca p0 cf cf')) := by
  refine px_enter (by decide) (Nat.le_of_ble_eq_true rfl) ?_
  intro p e s m below meth c A ls hAe S hr hlk hnm hA hT hX hw hl
  have hl : lv_has ls 3 [(0, .ref h), (1, .int p0)] := hl
  have lp0 := Int32.le_toInt p0
  have up0 := Int32.toInt_lt p0
  have cstm1 : ((-1) : Int32).toInt = (-1) := rfl
  have cst1 : (1 : Int32).toInt = 1 := rfl
  have hX : (fun A U H => (oP A g U H)) A s s.heap := by rw [hAe]; exact hX
  have hP := hX
  have hZ := hP.1
  have hF0 := hP.2.1
  have hkp : KpT cf cf := KpT.rf
  have hf11 := hft.1
  have hsr0 := ScV.rng hsc
  have hsc_p0 := hsc
  have hls := Ts.s hts hvt ⟨by omega, by omega⟩
  have J109 : ∀ (n_109 : Nat) (cf_109 : Nat → Int32) (mid_109 : Int) (wr_109 : Int) (x109_2 : Int32) (H : Heap) (locs : List Loc) (ls : Array Slot), (KpT cf cf_109) → ((cf 59).toInt ≤ (cf_109 59).toInt) → ((cf_109 59).toInt ≤ 4200) → ((cf_109 30).toInt = (cf 30).toInt) → (p0.toInt + 1 ≤ mid_109) → (mid_109 ≤ hi) → (0 ≤ wr_109) → ((na 14 p0.toNatClampNeg).toInt = 23) → (RvV ta (tf 6).toInt na ma0 d mid_109 hi wr_109 x109_2) → (RwV0 na V 5 x109_2) → (HvR na ma0 ma (tkl na ma0 ca) d (na 17 p0.toNatClampNeg) x109_2 (cf_109 59).toInt) → (K_mp_measureOne_109 (RL_mp_measureOne d) na ma ca p0 cf cf_109 x109_2) → hi - mid_109 < (n_109 : Int) → pw D A s.heap H locs [wdP cs h r g tf ta pf na ma wa cf_109 ca ef ea xf xa] → lv_has ls 3 [(0, .ref h), (1, .int p0), (2, .int x109_2)] → W p l e { frames := (5 * (d + 1) + 14), cells := 0, slots := 0, locals := (220 * (d + 1) + 460) } s m [.ref h, .int p0].toArray below meth c H locs 0 0 (MQ below (va_Qv (fun ps => ∃ (cf' : Nat → Int32), (ps = [wdP cs h r g tf ta pf na ma wa cf' ca ef ea xf xa]) ∧ (KpT cf cf') ∧ ((cf 59).toInt ≤ (cf' 59).toInt) ∧ ((cf' 59).toInt ≤ 4200) ∧ ((cf' 30).toInt = (cf 30).toInt) ∧ (HsB na ma0 ma (tkl na ma0 ca) (d + 1) p0 (cf' 59).toInt) ∧ (R_mp_measureOne (RL_mp_measureOne d) na ma ca p0 cf cf')) (pc_B D (va_A ([wdP cs h r g tf ta pf na ma wa cf ca ef ea xf xa] : List va_W).flatten s.heap.size)) (va_A ([wdP cs h r g tf ta pf na ma wa cf ca ef ea xf xa] : List va_W).flatten s.heap.size)) [.ref h, .int p0].toArray s 0 0 A) (F0 m 109 ls []) := by
    intro  n_109
    induction n_109 with
    | zero =>
      intro cf_109 mid_109 wr_109 x109_2 H locs ls k109_0 k109_1 k109_2 k109_3 k109_4 k109_5 k109_6 k109_7 k109_8 k109_9 k109_10 k109_11 hm hw hl
      have lx109_2 := Int32.le_toInt x109_2
      have ux109_2 := Int32.toInt_lt x109_2
      have hkp := k109_0
      have hkf : (cf_109 38).toInt = (cf 38).toInt := congrArg Int32.toInt (hkp 38 (by decide))
      have hrv := k109_8
      have hrw := k109_9
      have hvq := k109_10
      exact absurd hm (by omega)
    | succ n_109 ih109 =>
      intro cf_109 mid_109 wr_109 x109_2 H locs ls k109_0 k109_1 k109_2 k109_3 k109_4 k109_5 k109_6 k109_7 k109_8 k109_9 k109_10 k109_11 hm hw hl
      have lx109_2 := Int32.le_toInt x109_2
      have ux109_2 := Int32.toInt_lt x109_2
      have hkp := k109_0
      have hkf : (cf_109 38).toInt = (cf 38).toInt := congrArg Int32.toInt (hkp 38 (by decide))
      have hrv := k109_8
      have hrw := k109_9
      have hvq := k109_10
      refine lv_iload_n S.x S.b d_Mpg_measureOne_109 rfl (lv_at hl 2 rfl) ?_
      refine lv_if_lt (tgt := 147) S.x S.b d_Mpg_measureOne_110 (by decide) (fun c1 => ?_) (fun c1 => ?_)
      · have nc1 : x109_2.toInt < (0 : Int) := (i_lt (x := x109_2) (y := 0)).mp c1
        refine lv_goto (tgt := 267) S.x S.b d_Mpg_measureOne_147 (by decide) ?_
        exact px_vret S hr hlk hAe hw (Nat.le_of_ble_eq_true rfl) (Nat.le_of_ble_eq_true rfl) (⟨cf_109, rfl, (show KpT cf cf_109 from hkp), (show (cf 59).toInt ≤ (cf_109 59).toInt from by first | exact k109_1 | omega), (show (cf_109 59).toInt ≤ 4200 from by first | exact k109_2 | omega), (show (cf_109 30).toInt = (cf 30).toInt from by first | exact k109_3 | omega), (show HsB na ma0 ma (tkl na ma0 ca) (d + 1) p0 (cf_109 59).toInt from (hvq.elim fun m9 g9 => Or.inr (Or.inr (Or.inr (Or.inl (⟨by omega, m9, g9.row (by omega)⟩)))))), (show R_mp_measureOne (RL_mp_measureOne d) na ma ca p0 cf cf_109 from (k109_11 _ 1 (Or.inr (Or.inl ⟨rfl, x109_2, rfl, rfl, rfl, rfl, rfl, Or.inl ⟨nc1, rfl⟩⟩))))⟩) d_Mpg_measureOne_267
      · have nc1 : ¬ x109_2.toInt < (0 : Int) := mt (i_lt (x := x109_2) (y := 0)).mpr c1
        refine lv_aload_n S.x S.b d_Mpg_measureOne_113 rfl (lv_at hl 0 rfl) ?_
        obtain ⟨md3, wv4, hm1_md3, hm2_md3, hm3_md3, hvc_x109_2, hx3_md3, hrv2⟩ := RvE.step hrv (by omega); have hwp2 := RvE.wp hrv2; have hvr := VcV.rng hvc_x109_2; have hvk := VcV.kind hvc_x109_2; obtain ⟨hv5, hrw2⟩ := RwV0.go hrw (by omega) rfl
        refine lv_aload_n S.x S.b d_Mpg_measureOne_114 rfl (lv_at hl 0 rfl) ?_
        refine px_get S k_Mpg hT hw 0 0 22 (v := .ref (r 22)) rfl rfl rfl (by decide) m10_9 d_Mpg_measureOne_115 ?_
        refine lv_iload_n S.x S.b d_Mpg_measureOne_118 rfl (lv_at hl 2 rfl) ?_
        refine px_iald S hT hw 0 18 (n := 2100) (f := (ma 22)) rfl gp_22 (x := x109_2) (vp_in_iff.mpr (by constructor <;> omega)) d_Mpg_measureOne_119 ?_
        refine lv_topi (fun z5 ez5 => ?_)
        have lz5 := Int32.le_toInt z5
        have uz5 := Int32.toInt_lt z5
        have rz5 : z5.toInt = (ma0 22 x109_2.toNatClampNeg).toInt := (by rw [ez5, Ann.v22 han (by omega)])
        refine lv_iconst (v := 1) S.x S.b d_Mpg_measureOne_120 (by decide) ?_
        refine lv_icmp_ne (tgt := 133) S.x S.b d_Mpg_measureOne_121 (by decide) (fun c6 => ?_) (fun c6 => ?_)
        · have nc6 : ¬ z5.toInt = (1 : Int) := mt (i_eq (x := z5) (y := 1)).mpr c6
          refine lv_iconst (v := (-1)) S.x S.b d_Mpg_measureOne_133 (by decide) ?_
          refine px_callv (pr := []) (px_runV (As := [.int (-1)]) (rest := []) S (c_mp_raise l D cs ma0 ys ns nf d lo hi V vl vh h r g tf ta pf na ma wa ca ef ea xf xa cf_109 (-1)  (show 0 ≤ lo from by first | exact g0 | omega) (show hi ≤ (pf 13).toInt from by first | exact g1 | omega) (show (pf 13).toInt ≤ 2100 from by first | exact g2 | omega) (show (tf 6).toInt ≤ 2049 from by first | exact g3 | omega) (show (cf_109 38).toInt = nf from by first | exact oz_1687f4cc65 g4 hkf | omega) (show 0 ≤ nf from by first | exact g5 | omega) (show 0 ≤ (cf_109 59).toInt from by first | exact oz_16d7fa9f32 k109_1 g6 | omega) (show (cf_109 59).toInt ≤ 4200 from by first | exact k109_2 | omega) htk (FnT.eq hft (by omega)) hfp han hts (Or.inl (by decide)) _) hT (pr := []) (pcs := [wdP cs h r g tf ta pf na ma wa cf_109 ca ef ea xf xa]) hw (oX_call (P := (fun A U H => (oP A g U H))) (pr := []) oG_P hw hA hP) (px_recv hT hw 0 0 rfl rfl rfl) m13_61 m13_58 m13_60 ms_13_12 m1_21 q_Mpg_raise ⟨show (2 * d + 9) + 1 ≤ (5 * (d + 1) + 14) from (by first | exact oz_cb83fcf286 | omega), show 8 + (3 + 11) + (100 * d + 300) ≤ (220 * (d + 1) + 460) from (by first | exact oz_7ec2de144a | omega)⟩ hl.1 rfl (Nat.le_of_ble_eq_true rfl) d_Mpg_measureOne_134 ⟨Nat.le_of_ble_eq_true rfl, Nat.le_of_ble_eq_true rfl⟩) hw hA (fun p10 H locs hp10 hw => ?_)
          obtain ⟨cf9, rfl, e12, e13, e14, e15, e16, e17⟩ := hp10
          have e12 : KpT cf_109 cf9 := e12
          have hkp := hkp.tr e12
          have hkf_e12 : (cf9 38).toInt = (cf 38).toInt := congrArg Int32.toInt (hkp 38 (by decide))
          have e13 : (cf_109 59).toInt ≤ (cf9 59).toInt := e13
          have e14 : (cf9 59).toInt ≤ 4200 := e14
          have e15 : (cf9 30).toInt = (cf_109 30).toInt := e15
          have e16 : HgO na ma0 ma (tkl na ma0 ca) d (-1 : Int32) (cf9 59).toInt := e16
          have e17 : R_mp_raise na ma ca (-1 : Int32) cf_109 cf9 := e17
          have hw : pw D A s.heap H locs [wdP cs h r g tf ta pf na ma wa cf9 ca ef ea xf xa] := hw
          refine lv_aload_n S.x S.b d_Mpg_measureOne_137 rfl (lv_at hl 0 rfl) ?_
          refine px_get S k_Mpg hT hw 0 0 21 (v := .ref (r 21)) rfl rfl rfl (by decide) m10_7 d_Mpg_measureOne_138 ?_
          refine lv_iload_n S.x S.b d_Mpg_measureOne_141 rfl (lv_at hl 2 rfl) ?_
          refine px_iald S hT hw 0 17 (n := 2100) (f := (na 21)) rfl gp_21 (x := x109_2) (vp_in_iff.mpr (by constructor <;> omega)) d_Mpg_measureOne_142 ?_
          refine lv_topi (fun z18 ez18 => ?_)
          have lz18 := Int32.le_toInt z18
          have uz18 := Int32.toInt_lt z18
          refine lv_istore_n (lv' := [(2, .int z18), (0, .ref h), (1, .int p0)]) S.x S.b d_Mpg_measureOne_143 rfl hl (by decide) rfl (fun ls hl => ?_)
          refine lv_goto (tgt := 109) S.x S.b d_Mpg_measureOne_144 (by decide) ?_
          exact ih109 cf9 md3 (wr_109 - wv4) z18 _ _ ls (show KpT cf cf9 from hkp) (show (cf 59).toInt ≤ (cf9 59).toInt from by first | exact oz_be764f19f0 k109_1 e13 | omega) (show (cf9 59).toInt ≤ 4200 from by first | exact e14 | omega) (show (cf9 30).toInt = (cf 30).toInt from by first | exact oz_1687f4cc65 k109_3 e15 | omega) (show p0.toInt + 1 ≤ md3 from by omega) (show md3 ≤ hi from by first | exact hm2_md3 | omega) (show 0 ≤ (wr_109 - wv4) from by omega) (show (na 14 p0.toNatClampNeg).toInt = 23 from by first | exact k109_7 | omega) (show RvV ta (tf 6).toInt na ma0 d md3 hi (wr_109 - wv4) z18 from (by rw [ez18]; exact hrv2)) (show RwV0 na V 5 z18 from (by rw [ez18]; exact hrw2)) (show HvR na ma0 ma (tkl na ma0 ca) d (na 17 p0.toNatClampNeg) z18 (cf9 59).toInt from (HvR.nx hvq (by omega) (fun q9 => absurd q9 (by omega)) ez18)) (show K_mp_measureOne_109 (RL_mp_measureOne d) na ma ca p0 cf cf9 z18 from (fun y_f0 k hE => k109_11 y_f0 (k + 1) (Or.inr (Or.inl ⟨rfl, x109_2, rfl, rfl, rfl, rfl, rfl, Or.inr ⟨nc1, z5, ez5, Or.inl ⟨nc6, cf9, e17, z18, ez18, hE⟩⟩⟩)))) (show hi - md3 < (n_109 : Int) from by omega) hw (lv_sub hl [1, 2, 0] rfl)
        · have nc6 : z5.toInt = (1 : Int) := (i_eq (x := z5) (y := 1)).mp c6
          refine lv_aload_n S.x S.b d_Mpg_measureOne_124 rfl (lv_at hl 0 rfl) ?_
          refine px_get S k_Mpg hT hw 0 0 18 (v := .ref (r 18)) rfl rfl rfl (by decide) m10_3 d_Mpg_measureOne_125 ?_
          refine lv_iload_n S.x S.b d_Mpg_measureOne_128 rfl (lv_at hl 2 rfl) ?_
          refine px_iald S hT hw 0 14 (n := 2100) (f := (ma 18)) rfl gp_18 (x := x109_2) (vp_in_iff.mpr (by constructor <;> omega)) d_Mpg_measureOne_129 ?_
          refine lv_topi (fun z19 ez19 => ?_)
          have lz19 := Int32.le_toInt z19
          have uz19 := Int32.toInt_lt z19
          have hneg : (na 17 x109_2.toNatClampNeg).toInt < 0 := VcV.neg hvc_x109_2 (by omega); have ha_z19 : z19 = ma0 18 x109_2.toNatClampNeg := ez19.trans (Ann.v18 han (by omega)); have hev_z19 := VcV.v11 hvc_x109_2 hneg (by omega) ha_z19; obtain ⟨hec_z19, h20_z19, hw_z19⟩ := hev_z19.ec; have hrg_z19 := EcV.rng hec_z19; have hvn_z19 : V z19.toNatClampNeg 0 := (by rw [ez19]; exact LcV.i1 (Ts.v hts hv5) hneg (by rw [Ann.v22 han (by omega)]; omega)); have hor_z19 : z19.toInt < 0 ∨ (EcV ta (tf 6).toInt na ma0 d (x109_2.toInt + 1) md3 z19 ∧ V z19.toNatClampNeg 0) := Or.inr ⟨hec_z19, hvn_z19⟩
          refine lv_goto (tgt := 134) S.x S.b d_Mpg_measureOne_130 (by decide) ?_
          refine px_callv (pr := []) (px_runV (As := [.int z19]) (rest := []) S (c_mp_raise l D cs ma0 ys ns nf d (x109_2.toInt + 1) md3 V vl vh h r g tf ta pf na ma wa ca ef ea xf xa cf_109 z19  (show 0 ≤ (x109_2.toInt + 1) from by first | exact oz_0073e084eb nc1 | omega) (show md3 ≤ (pf 13).toInt from by first | exact oz_bbb5b20c1a g1 hm2_md3 | omega) (show (pf 13).toInt ≤ 2100 from by first | exact g2 | omega) (show (tf 6).toInt ≤ 2049 from by first | exact g3 | omega) (show (cf_109 38).toInt = nf from by first | exact oz_1687f4cc65 g4 hkf | omega) (show 0 ≤ nf from by first | exact g5 | omega) (show 0 ≤ (cf_109 59).toInt from by first | exact oz_16d7fa9f32 k109_1 g6 | omega) (show (cf_109 59).toInt ≤ 4200 from by first | exact k109_2 | omega) htk (FnT.eq hft (by omega)) hfp han hts (hor_z19) _) hT (pr := []) (pcs := [wdP cs h r g tf ta pf na ma wa cf_109 ca ef ea xf xa]) hw (oX_call (P := (fun A U H => (oP A g U H))) (pr := []) oG_P hw hA hP) (px_recv hT hw 0 0 rfl rfl rfl) m13_61 m13_58 m13_60 ms_13_12 m1_21 q_Mpg_raise ⟨show (2 * d + 9) + 1 ≤ (5 * (d + 1) + 14) from (by first | exact oz_cb83fcf286 | omega), show 8 + (3 + 11) + (100 * d + 300) ≤ (220 * (d + 1) + 460) from (by first | exact oz_7ec2de144a | omega)⟩ hl.1 rfl (Nat.le_of_ble_eq_true rfl) d_Mpg_measureOne_134 ⟨Nat.le_of_ble_eq_true rfl, Nat.le_of_ble_eq_true rfl⟩) hw hA (fun p22 H locs hp22 hw => ?_)
          obtain ⟨cf21, rfl, e24, e25, e26, e27, e28, e29⟩ := hp22
          have e24 : KpT cf_109 cf21 := e24
          have hkp := hkp.tr e24
          have hkf_e24 : (cf21 38).toInt = (cf 38).toInt := congrArg Int32.toInt (hkp 38 (by decide))
          have e25 : (cf_109 59).toInt ≤ (cf21 59).toInt := e25
          have e26 : (cf21 59).toInt ≤ 4200 := e26
          have e27 : (cf21 30).toInt = (cf_109 30).toInt := e27
          have e28 : HgO na ma0 ma (tkl na ma0 ca) d z19 (cf21 59).toInt := e28
          have e29 : R_mp_raise na ma ca z19 cf_109 cf21 := e29
          have hw : pw D A s.heap H locs [wdP cs h r g tf ta pf na ma wa cf21 ca ef ea xf xa] := hw
          refine lv_aload_n S.x S.b d_Mpg_measureOne_137 rfl (lv_at hl 0 rfl) ?_
          refine px_get S k_Mpg hT hw 0 0 21 (v := .ref (r 21)) rfl rfl rfl (by decide) m10_7 d_Mpg_measureOne_138 ?_
          refine lv_iload_n S.x S.b d_Mpg_measureOne_141 rfl (lv_at hl 2 rfl) ?_
          refine px_iald S hT hw 0 17 (n := 2100) (f := (na 21)) rfl gp_21 (x := x109_2) (vp_in_iff.mpr (by constructor <;> omega)) d_Mpg_measureOne_142 ?_
          refine lv_topi (fun z30 ez30 => ?_)
          have lz30 := Int32.le_toInt z30
          have uz30 := Int32.toInt_lt z30
          refine lv_istore_n (lv' := [(2, .int z30), (0, .ref h), (1, .int p0)]) S.x S.b d_Mpg_measureOne_143 rfl hl (by decide) rfl (fun ls hl => ?_)
          refine lv_goto (tgt := 109) S.x S.b d_Mpg_measureOne_144 (by decide) ?_
          exact ih109 cf21 md3 (wr_109 - wv4) z30 _ _ ls (show KpT cf cf21 from hkp) (show (cf 59).toInt ≤ (cf21 59).toInt from by first | exact oz_be764f19f0 k109_1 e25 | omega) (show (cf21 59).toInt ≤ 4200 from by first | exact e26 | omega) (show (cf21 30).toInt = (cf 30).toInt from by first | exact oz_1687f4cc65 k109_3 e27 | omega) (show p0.toInt + 1 ≤ md3 from by omega) (show md3 ≤ hi from by first | exact hm2_md3 | omega) (show 0 ≤ (wr_109 - wv4) from by omega) (show (na 14 p0.toNatClampNeg).toInt = 23 from by first | exact k109_7 | omega) (show RvV ta (tf 6).toInt na ma0 d md3 hi (wr_109 - wv4) z30 from (by rw [ez30]; exact hrv2)) (show RwV0 na V 5 z30 from (by rw [ez30]; exact hrw2)) (show HvR na ma0 ma (tkl na ma0 ca) d (na 17 p0.toNatClampNeg) z30 (cf21 59).toInt from (HvR.nx hvq (by omega) (fun q9 => Or.inr (by rw [← ha_z19]; exact (HgO.mono e28 (by omega)).elim (fun r9 => absurd r9 (by omega)) id)) ez30)) (show K_mp_measureOne_109 (RL_mp_measureOne d) na ma ca p0 cf cf21 z30 from (fun y_f0 k hE => k109_11 y_f0 (k + 1) (Or.inr (Or.inl ⟨rfl, x109_2, rfl, rfl, rfl, rfl, rfl, Or.inr ⟨nc1, z5, ez5, Or.inr ⟨nc6, z19, ez19, cf21, e29, z30, ez30, hE⟩⟩⟩)))) (show hi - md3 < (n_109 : Int) from by omega) hw (lv_sub hl [1, 2, 0] rfl)
  refine lv_aload_n S.x S.b d_Mpg_measureOne_0 rfl (lv_at hl 0 rfl) ?_
  refine px_get S k_Mpg hT hw 0 0 14 (v := .ref (r 14)) rfl rfl rfl (by decide) m9_238 d_Mpg_measureOne_1 ?_
  refine lv_iload_n S.x S.b d_Mpg_measureOne_4 rfl (lv_at hl 1 rfl) ?_
  refine px_bald S hT hw 0 10 (n := 2100) (f := (na 14)) rfl gp_14 (x := p0) (vp_in_iff.mpr (by first | exact oz_a7e05de1cd hsr0.2.2.1 hsr0.2.1 g1 g2 | (constructor <;> omega))) d_Mpg_measureOne_5 ?_
  refine lv_topi (fun z31 ez31 => ?_)
  have lz31 := Int32.le_toInt z31
  have uz31 := Int32.toInt_lt z31
  have rz31 := ScV.kd hsc_p0 ez31
  refine px_tabD S (dt := 267) [(76, [20]), (267, [21, 29, 30, 31, 32]), (89, [22, 33]), (102, [23]), (150, [24, 25, 26]), (192, [27]), (244, [28])] d_Mpg_measureOne_6 (by decide +kernel) (by decide) (by decide +kernel) ?_ ?_
  · intro hdf_6
    exact px_vret S hr hlk hAe hw (Nat.le_of_ble_eq_true rfl) (Nat.le_of_ble_eq_true rfl) (⟨cf, rfl, (show KpT cf cf from hkp), (show (cf 59).toInt ≤ (cf 59).toInt from by first | exact oz_1cb5f934a5 | omega), (show (cf 59).toInt ≤ 4200 from by first | exact g7 | omega), (show (cf 30).toInt = (cf 30).toInt from rfl), (show HsB na ma0 ma (tkl na ma0 ca) (d + 1) p0 (cf 59).toInt from (Or.inl (by omega))), (show R_mp_measureOne (RL_mp_measureOne d) na ma ca p0 cf cf from (Exists.intro 1 (Or.inl ⟨rfl, z31, ez31, Or.inl ⟨hdf_6, rfl⟩⟩)))⟩) d_Mpg_measureOne_267
  · refine List.forall_mem_cons.mpr ⟨fun c33 => ?_, List.forall_mem_cons.mpr ⟨fun c33 => ?_, List.forall_mem_cons.mpr ⟨fun c33 => ?_, List.forall_mem_cons.mpr ⟨fun c33 => ?_, List.forall_mem_cons.mpr ⟨fun c33 => ?_, List.forall_mem_cons.mpr ⟨fun c33 => ?_, List.forall_mem_cons.mpr ⟨fun c33 => ?_, fun _ h => absurd h List.not_mem_nil⟩⟩⟩⟩⟩⟩⟩
    · simp only [List.mem_cons, List.not_mem_nil, or_false] at c33
      refine lv_aload_n S.x S.b d_Mpg_measureOne_76 rfl (lv_at hl 0 rfl) ?_
      refine lv_aload_n S.x S.b d_Mpg_measureOne_77 rfl (lv_at hl 0 rfl) ?_
      have hrs20 := ScV.s20 hsc (by omega) (z := na 17 p0.toNatClampNeg) rfl; have hvw := LcS.k20 hls (by omega)
      refine px_get S k_Mpg hT hw 0 0 17 (v := .ref (r 17)) rfl rfl rfl (by decide) m10_1 d_Mpg_measureOne_78 ?_
      refine lv_iload_n S.x S.b d_Mpg_measureOne_81 rfl (lv_at hl 1 rfl) ?_
      refine px_iald S hT hw 0 13 (n := 2100) (f := (na 17)) rfl gp_17 (x := p0) (vp_in_iff.mpr (by first | exact oz_a7e05de1cd hsr0.2.2.1 hsr0.2.1 g1 g2 | (constructor <;> omega))) d_Mpg_measureOne_82 ?_
      refine lv_topi (fun z34 ez34 => ?_)
      have lz34 := Int32.le_toInt z34
      have uz34 := Int32.toInt_lt z34
      have ha_z34 : z34 = na 17 p0.toNatClampNeg := ez34; have hn_z34 : z34.toInt = (na 17 p0.toNatClampNeg).toInt := (by rw [ha_z34]); have hrs_z34 : RvS ta (tf 6).toInt na ma0 d (p0.toInt + 1) hi w z34 := (by rw [ha_z34]; exact hrs20); have hrw_z34 : RwV0 na V t z34 := (by rw [ez34]; exact hvw)
      refine px_callv (pr := []) (px_runV (As := [.int z34]) (rest := []) S (c_mp_measure l D cs ma0 ys ns nf d (p0.toInt + 1) hi w t V vl vh h r g tf ta pf na ma wa ca ef ea xf xa cf z34  (show 0 ≤ (p0.toInt + 1) from by first | exact oz_c12c169b81 hsr0.2.2.1 | omega) (show hi ≤ (pf 13).toInt from by first | exact g1 | omega) (show (pf 13).toInt ≤ 2100 from by first | exact g2 | omega) (show (tf 6).toInt ≤ 2049 from by first | exact g3 | omega) (show (cf 38).toInt = nf from by first | exact g4 | omega) (show 0 ≤ nf from by first | exact g5 | omega) (show 0 ≤ (cf 59).toInt from by first | exact g6 | omega) (show (cf 59).toInt ≤ 4200 from by first | exact g7 | omega) (show (p0.toInt + 1) ≤ hi from by first | exact oz_8cd8185cc8 hsr0.2.1 | omega) (show 0 ≤ w from by first | exact hsr0.2.2.2 | omega) (show 2 ≤ t from by first | exact g8 | omega) (show t ≤ 4 from by first | exact g9 | omega) htk (FnT.eq hft (by omega)) hfp han hts hrs_z34 hrw_z34 hLQ _) hT (pr := []) (pcs := [wdP cs h r g tf ta pf na ma wa cf ca ef ea xf xa]) hw (oX_call (P := (fun A U H => (oP A g U H))) (pr := []) oG_P hw hA hP) (px_recv hT hw 0 0 rfl rfl rfl) m13_53 m13_50 m13_52 ms_13_10 m1_21 q_Mpg_measure ⟨show (5 * d + 15) + 1 ≤ (5 * (d + 1) + 14) from (by first | exact oz_ee2e824722 | omega), show 8 + (3 + 11) + (220 * d + 500) ≤ (220 * (d + 1) + 460) from (by first | exact oz_09d075cca2 | omega)⟩ hl.1 rfl (Nat.le_of_ble_eq_true rfl) d_Mpg_measureOne_83 ⟨Nat.le_of_ble_eq_true rfl, Nat.le_of_ble_eq_true rfl⟩) hw hA (fun p37 H locs hp37 hw => ?_)
      obtain ⟨cf36, rfl, e39, e40, e41, e42, e43, e44⟩ := hp37
      have e39 : KpT cf cf36 := e39
      have hkp := hkp.tr e39
      have hkf_e39 : (cf36 38).toInt = (cf 38).toInt := congrArg Int32.toInt (hkp 38 (by decide))
      have e40 : (cf 59).toInt ≤ (cf36 59).toInt := e40
      have e41 : (cf36 59).toInt ≤ 4200 := e41
      have e42 : (cf36 30).toInt = (cf 30).toInt := e42
      have e43 : HsW na ma0 ma (tkl na ma0 ca) d z34 (cf36 59).toInt := e43
      have e44 : R_mp_measure (RL_mp_measureOne d) na ma ca z34 cf cf36 := e44
      have hw : pw D A s.heap H locs [wdP cs h r g tf ta pf na ma wa cf36 ca ef ea xf xa] := hw
      refine lv_goto (tgt := 267) S.x S.b d_Mpg_measureOne_86 (by decide) ?_
      exact px_vret S hr hlk hAe hw (Nat.le_of_ble_eq_true rfl) (Nat.le_of_ble_eq_true rfl) (⟨cf36, rfl, (show KpT cf cf36 from hkp), (show (cf 59).toInt ≤ (cf36 59).toInt from by first | exact e40 | omega), (show (cf36 59).toInt ≤ 4200 from by first | exact e41 | omega), (show (cf36 30).toInt = (cf 30).toInt from by first | exact e42 | omega), (show HsB na ma0 ma (tkl na ma0 ca) (d + 1) p0 (cf36 59).toInt from Or.inr (Or.inl (⟨by omega, by rw [← ha_z34]; exact e43⟩))), (show R_mp_measureOne (RL_mp_measureOne d) na ma ca p0 cf cf36 from (Exists.intro 1 (Or.inl ⟨rfl, z31, ez31, Or.inr (Or.inl ⟨c33, z34, ez34, cf36, e44, rfl⟩)⟩)))⟩) d_Mpg_measureOne_267
    · simp only [List.mem_cons, List.not_mem_nil, or_false] at c33
      exact px_vret S hr hlk hAe hw (Nat.le_of_ble_eq_true rfl) (Nat.le_of_ble_eq_true rfl) (⟨cf, rfl, (show KpT cf cf from hkp), (show (cf 59).toInt ≤ (cf 59).toInt from by first | exact oz_1cb5f934a5 | omega), (show (cf 59).toInt ≤ 4200 from by first | exact g7 | omega), (show (cf 30).toInt = (cf 30).toInt from rfl), (show HsB na ma0 ma (tkl na ma0 ca) (d + 1) p0 (cf 59).toInt from (Or.inl (by omega))), (show R_mp_measureOne (RL_mp_measureOne d) na ma ca p0 cf cf from (Exists.intro 1 (Or.inl ⟨rfl, z31, ez31, Or.inr (Or.inr (Or.inl ⟨c33, rfl⟩))⟩)))⟩) d_Mpg_measureOne_267
    · simp only [List.mem_cons, List.not_mem_nil, or_false] at c33
      refine lv_aload_n S.x S.b d_Mpg_measureOne_89 rfl (lv_at hl 0 rfl) ?_
      refine lv_aload_n S.x S.b d_Mpg_measureOne_90 rfl (lv_at hl 0 rfl) ?_
      have hoe := ScV.s223 hsc (by omega); have hvo := LcS.k223 hls (by omega)
      refine px_get S k_Mpg hT hw 0 0 17 (v := .ref (r 17)) rfl rfl rfl (by decide) m10_1 d_Mpg_measureOne_91 ?_
      refine lv_iload_n S.x S.b d_Mpg_measureOne_94 rfl (lv_at hl 1 rfl) ?_
      refine px_iald S hT hw 0 13 (n := 2100) (f := (na 17)) rfl gp_17 (x := p0) (vp_in_iff.mpr (by first | exact oz_a7e05de1cd hsr0.2.2.1 hsr0.2.1 g1 g2 | (constructor <;> omega))) d_Mpg_measureOne_95 ?_
      refine lv_topi (fun z45 ez45 => ?_)
      have lz45 := Int32.le_toInt z45
      have uz45 := Int32.toInt_lt z45
      have ha_z45 : z45 = na 17 p0.toNatClampNeg := ez45; have hn_z45 : z45.toInt = (na 17 p0.toNatClampNeg).toInt := (by rw [ha_z45]); have hor_z45 : z45.toInt < 0 ∨ (EcV ta (tf 6).toInt na ma0 d (p0.toInt + 1) hi z45 ∧ V z45.toNatClampNeg 0) := (by by_cases q9 : z45.toInt < 0; exact Or.inl q9; exact Or.inr ⟨by rw [ha_z45]; exact (ErV.ec (OcV.get hoe (by omega))).1, by rw [ez45]; exact OpT.get hvo (by rw [← ez45]; omega)⟩)
      refine px_callv (pr := []) (px_runV (As := [.int z45]) (rest := []) S (c_mp_raise l D cs ma0 ys ns nf d (p0.toInt + 1) hi V vl vh h r g tf ta pf na ma wa ca ef ea xf xa cf z45  (show 0 ≤ (p0.toInt + 1) from by first | exact oz_c12c169b81 hsr0.2.2.1 | omega) (show hi ≤ (pf 13).toInt from by first | exact g1 | omega) (show (pf 13).toInt ≤ 2100 from by first | exact g2 | omega) (show (tf 6).toInt ≤ 2049 from by first | exact g3 | omega) (show (cf 38).toInt = nf from by first | exact g4 | omega) (show 0 ≤ nf from by first | exact g5 | omega) (show 0 ≤ (cf 59).toInt from by first | exact g6 | omega) (show (cf 59).toInt ≤ 4200 from by first | exact g7 | omega) htk (FnT.eq hft (by omega)) hfp han hts (hor_z45) _) hT (pr := []) (pcs := [wdP cs h r g tf ta pf na ma wa cf ca ef ea xf xa]) hw (oX_call (P := (fun A U H => (oP A g U H))) (pr := []) oG_P hw hA hP) (px_recv hT hw 0 0 rfl rfl rfl) m13_61 m13_58 m13_60 ms_13_12 m1_21 q_Mpg_raise ⟨show (2 * d + 9) + 1 ≤ (5 * (d + 1) + 14) from (by first | exact oz_cb83fcf286 | omega), show 8 + (3 + 11) + (100 * d + 300) ≤ (220 * (d + 1) + 460) from (by first | exact oz_7ec2de144a | omega)⟩ hl.1 rfl (Nat.le_of_ble_eq_true rfl) d_Mpg_measureOne_96 ⟨Nat.le_of_ble_eq_true rfl, Nat.le_of_ble_eq_true rfl⟩) hw hA (fun p48 H locs hp48 hw => ?_)
      obtain ⟨cf47, rfl, e50, e51, e52, e53, e54, e55⟩ := hp48
      have e50 : KpT cf cf47 := e50
      have hkp := hkp.tr e50
      have hkf_e50 : (cf47 38).toInt = (cf 38).toInt := congrArg Int32.toInt (hkp 38 (by decide))
      have e51 : (cf 59).toInt ≤ (cf47 59).toInt := e51
      have e52 : (cf47 59).toInt ≤ 4200 := e52
      have e53 : (cf47 30).toInt = (cf 30).toInt := e53
      have e54 : HgO na ma0 ma (tkl na ma0 ca) d z45 (cf47 59).toInt := e54
      have e55 : R_mp_raise na ma ca z45 cf cf47 := e55
      have hw : pw D A s.heap H locs [wdP cs h r g tf ta pf na ma wa cf47 ca ef ea xf xa] := hw
      refine lv_goto (tgt := 267) S.x S.b d_Mpg_measureOne_99 (by decide) ?_
      exact px_vret S hr hlk hAe hw (Nat.le_of_ble_eq_true rfl) (Nat.le_of_ble_eq_true rfl) (⟨cf47, rfl, (show KpT cf cf47 from hkp), (show (cf 59).toInt ≤ (cf47 59).toInt from by first | exact e51 | omega), (show (cf47 59).toInt ≤ 4200 from by first | exact e52 | omega), (show (cf47 30).toInt = (cf 30).toInt from by first | exact e53 | omega), (show HsB na ma0 ma (tkl na ma0 ca) (d + 1) p0 (cf47 59).toInt from Or.inr (Or.inr (Or.inl (⟨by omega, by rw [← ha_z45]; exact (HgO.mono e54 (by omega))⟩)))), (show R_mp_measureOne (RL_mp_measureOne d) na ma ca p0 cf cf47 from (Exists.intro 1 (Or.inl ⟨rfl, z31, ez31, Or.inr (Or.inr (Or.inr (Or.inl ⟨c33, z45, ez45, cf47, e55, rfl⟩)))⟩)))⟩) d_Mpg_measureOne_267
    · simp only [List.mem_cons, List.not_mem_nil, or_false] at c33
      refine lv_aload_n S.x S.b d_Mpg_measureOne_102 rfl (lv_at hl 0 rfl) ?_
      refine px_get S k_Mpg hT hw 0 0 17 (v := .ref (r 17)) rfl rfl rfl (by decide) m10_1 d_Mpg_measureOne_103 ?_
      obtain ⟨h22, hrv3⟩ := ScV.s23 hsc (by omega) (z := na 17 p0.toNatClampNeg) rfl; have hrw3 := LcS.k23 hls (by omega); have hwp3 := RvE.wp hrv3
      refine lv_iload_n S.x S.b d_Mpg_measureOne_106 rfl (lv_at hl 1 rfl) ?_
      refine px_iald S hT hw 0 13 (n := 2100) (f := (na 17)) rfl gp_17 (x := p0) (vp_in_iff.mpr (by first | exact oz_a7e05de1cd hsr0.2.2.1 hsr0.2.1 g1 g2 | (constructor <;> omega))) d_Mpg_measureOne_107 ?_
      refine lv_topi (fun z56 ez56 => ?_)
      have lz56 := Int32.le_toInt z56
      have uz56 := Int32.toInt_lt z56
      refine lv_istore_n (lv' := [(2, .int z56), (0, .ref h), (1, .int p0)]) S.x S.b d_Mpg_measureOne_108 rfl hl (by decide) rfl (fun ls hl => ?_)
      exact J109 ((hi - (p0.toInt + 1)).toNat + 1) cf (p0.toInt + 1) w z56 _ _ ls (show KpT cf cf from hkp) (show (cf 59).toInt ≤ (cf 59).toInt from by first | exact oz_1cb5f934a5 | omega) (show (cf 59).toInt ≤ 4200 from by first | exact g7 | omega) (show (cf 30).toInt = (cf 30).toInt from rfl) (show p0.toInt + 1 ≤ (p0.toInt + 1) from by first | exact oz_a1bc7e1f12 | omega) (show (p0.toInt + 1) ≤ hi from by first | exact oz_8cd8185cc8 hsr0.2.1 | omega) (show 0 ≤ w from by first | exact hsr0.2.2.2 | omega) (show (na 14 p0.toNatClampNeg).toInt = 23 from by omega) (show RvV ta (tf 6).toInt na ma0 d (p0.toInt + 1) hi w z56 from (by rw [ez56]; exact hrv3)) (show RwV0 na V 5 z56 from (by rw [ez56]; exact hrw3)) (show HvR na ma0 ma (tkl na ma0 ca) d (na 17 p0.toNatClampNeg) z56 (cf 59).toInt from ⟨0, ez56.symm⟩) (show K_mp_measureOne_109 (RL_mp_measureOne d) na ma ca p0 cf cf z56 from (fun y_f0 k hE => Exists.intro (k + 1) (Or.inl ⟨rfl, z31, ez31, Or.inr (Or.inr (Or.inr (Or.inr (Or.inl ⟨c33, z56, ez56, hE⟩))))⟩))) (show hi - (p0.toInt + 1) < ((((hi - (p0.toInt + 1)).toNat + 1 : Nat) : Int) : Int) from by first | exact oz_natlt | omega) hw (lv_sub hl [1, 2, 0] rfl)
    · simp only [List.mem_cons, List.not_mem_nil, or_false] at c33
      refine lv_aload_n S.x S.b d_Mpg_measureOne_150 rfl (lv_at hl 0 rfl) ?_
      refine lv_aload_n S.x S.b d_Mpg_measureOne_151 rfl (lv_at hl 0 rfl) ?_
      obtain ⟨l1, h1, w1, l2, h2, w2, l3, w3, hbd, hea, hsb, hoc, hx24⟩ := ScV.s246 hsc (by omega); have h19m : (na 14 p0.toNatClampNeg).toInt ≠ 24 → (ma 19 p0.toNatClampNeg).toInt < 0 := (fun q9 => by rw [Ann.b19 han (by omega)]; exact hx24 q9); obtain ⟨hva, ⟨tb, htb, hvb⟩, hvc⟩ := LcS.k246 hls (by omega) h19m
      refine px_get S k_Mpg hT hw 0 0 17 (v := .ref (r 17)) rfl rfl rfl (by decide) m10_1 d_Mpg_measureOne_152 ?_
      refine lv_iload_n S.x S.b d_Mpg_measureOne_155 rfl (lv_at hl 1 rfl) ?_
      refine px_iald S hT hw 0 13 (n := 2100) (f := (na 17)) rfl gp_17 (x := p0) (vp_in_iff.mpr (by first | exact oz_a7e05de1cd hsr0.2.2.1 hsr0.2.1 g1 g2 | (constructor <;> omega))) d_Mpg_measureOne_156 ?_
      refine lv_topi (fun z57 ez57 => ?_)
      have lz57 := Int32.le_toInt z57
      have uz57 := Int32.toInt_lt z57
      have ha_z57 : z57 = na 17 p0.toNatClampNeg := ez57; have hn_z57 : z57.toInt = (na 17 p0.toNatClampNeg).toInt := (by rw [ha_z57]); have hec_z57 : EcV ta (tf 6).toInt na ma0 d l1 h1 z57 := (by rw [ha_z57]; exact (ErV.ec hea).1); have hrg_z57 := EcV.rng hec_z57; have hvn_z57 : V z57.toNatClampNeg 0 := (by rw [ez57]; exact hva); have hor_z57 : z57.toInt < 0 ∨ (EcV ta (tf 6).toInt na ma0 d l1 h1 z57 ∧ V z57.toNatClampNeg 0) := Or.inr ⟨hec_z57, hvn_z57⟩
      refine px_callv (pr := []) (px_runV (As := [.int z57]) (rest := []) S (c_mp_raise l D cs ma0 ys ns nf d l1 h1 V vl vh h r g tf ta pf na ma wa ca ef ea xf xa cf z57  (show 0 ≤ l1 from by first | exact oz_0a7da9c4d6 hbd.1 hsr0.2.2.1 | omega) (show h1 ≤ (pf 13).toInt from by first | exact oz_bbb5b20c1a g1 hbd.2.1 | omega) (show (pf 13).toInt ≤ 2100 from by first | exact g2 | omega) (show (tf 6).toInt ≤ 2049 from by first | exact g3 | omega) (show (cf 38).toInt = nf from by first | exact g4 | omega) (show 0 ≤ nf from by first | exact g5 | omega) (show 0 ≤ (cf 59).toInt from by first | exact g6 | omega) (show (cf 59).toInt ≤ 4200 from by first | exact g7 | omega) htk (FnT.eq hft (by omega)) hfp han hts (hor_z57) _) hT (pr := []) (pcs := [wdP cs h r g tf ta pf na ma wa cf ca ef ea xf xa]) hw (oX_call (P := (fun A U H => (oP A g U H))) (pr := []) oG_P hw hA hP) (px_recv hT hw 0 0 rfl rfl rfl) m13_61 m13_58 m13_60 ms_13_12 m1_21 q_Mpg_raise ⟨show (2 * d + 9) + 1 ≤ (5 * (d + 1) + 14) from (by first | exact oz_cb83fcf286 | omega), show 8 + (3 + 11) + (100 * d + 300) ≤ (220 * (d + 1) + 460) from (by first | exact oz_7ec2de144a | omega)⟩ hl.1 rfl (Nat.le_of_ble_eq_true rfl) d_Mpg_measureOne_157 ⟨Nat.le_of_ble_eq_true rfl, Nat.le_of_ble_eq_true rfl⟩) hw hA (fun p60 H locs hp60 hw => ?_)
      obtain ⟨cf59, rfl, e62, e63, e64, e65, e66, e67⟩ := hp60
      have e62 : KpT cf cf59 := e62
      have hkp := hkp.tr e62
      have hkf_e62 : (cf59 38).toInt = (cf 38).toInt := congrArg Int32.toInt (hkp 38 (by decide))
      have e63 : (cf 59).toInt ≤ (cf59 59).toInt := e63
      have e64 : (cf59 59).toInt ≤ 4200 := e64
      have e65 : (cf59 30).toInt = (cf 30).toInt := e65
      have e66 : HgO na ma0 ma (tkl na ma0 ca) d z57 (cf59 59).toInt := e66
      have e67 : R_mp_raise na ma ca z57 cf cf59 := e67
      have hw : pw D A s.heap H locs [wdP cs h r g tf ta pf na ma wa cf59 ca ef ea xf xa] := hw
      refine lv_aload_n S.x S.b d_Mpg_measureOne_160 rfl (lv_at hl 0 rfl) ?_
      refine lv_aload_n S.x S.b d_Mpg_measureOne_161 rfl (lv_at hl 0 rfl) ?_
      refine px_get S k_Mpg hT hw 0 0 18 (v := .ref (r 18)) rfl rfl rfl (by decide) m10_3 d_Mpg_measureOne_162 ?_
      refine lv_iload_n S.x S.b d_Mpg_measureOne_165 rfl (lv_at hl 1 rfl) ?_
      refine px_iald S hT hw 0 14 (n := 2100) (f := (ma 18)) rfl gp_18 (x := p0) (vp_in_iff.mpr (by first | exact oz_4d5c74e9a9 hsr0.2.2.1 hbd.1 g1 hbd.2.1 hrg_z57.1 g2 hrg_z57.2.1 | (constructor <;> omega))) d_Mpg_measureOne_166 ?_
      refine lv_topi (fun z68 ez68 => ?_)
      have lz68 := Int32.le_toInt z68
      have uz68 := Int32.toInt_lt z68
      have ha_z68 : z68 = ma0 18 p0.toNatClampNeg := ez68.trans (Ann.b18 han (by omega)); have hn_z68 : z68.toInt = (ma0 18 p0.toNatClampNeg).toInt := (by rw [ha_z68]); have hsc_z68 : ScV ta (tf 6).toInt na ma0 d l2 h2 w2 z68 := (by rw [ha_z68]; exact hsb); have hrg_z68 := ScV.rng hsc_z68; have hvt_z68 : V z68.toNatClampNeg tb := (by rw [ez68]; exact hvb)
      refine px_callv (pr := []) (px_runV (As := [.int z68]) (rest := []) S (hLQ ma0 ys ns nf l2 h2 w2 tb V vl vh h r g tf ta pf na ma wa ca ef ea xf xa cf59 z68 (show 0 ≤ l2 from by first | exact oz_0a7da9c4d6 hbd.2.2.1 hsr0.2.2.1 | omega) (show h2 ≤ (pf 13).toInt from by first | exact oz_bbb5b20c1a g1 hbd.2.2.2.1 | omega) (show (pf 13).toInt ≤ 2100 from by first | exact g2 | omega) (show (tf 6).toInt ≤ 2049 from by first | exact g3 | omega) (show (cf59 38).toInt = nf from by first | exact oz_1687f4cc65 g4 hkf_e62 | omega) (show 0 ≤ nf from by first | exact g5 | omega) (show 0 ≤ (cf59 59).toInt from by first | exact oz_16d7fa9f32 e63 g6 | omega) (show (cf59 59).toInt ≤ 4200 from by first | exact e64 | omega) (show 2 ≤ tb from by omega) (show tb ≤ 4 from by omega) htk (FnT.eq hft (by omega)) hfp han hts hsc_z68 hvt_z68 _) hT (pr := []) (pcs := [wdP cs h r g tf ta pf na ma wa cf59 ca ef ea xf xa]) hw (oX_call (P := (fun A U H => (oP A g U H))) (pr := []) oG_P hw hA hP) (px_recv hT hw 0 0 rfl rfl rfl) m13_57 m13_54 m13_56 ms_13_11 m1_21 q_Mpg_measureOne ⟨show (5 * d + 14) + 1 ≤ (5 * (d + 1) + 14) from (by first | exact oz_e908e9cca0 | omega), show 8 + (3 + 11) + (220 * d + 460) ≤ (220 * (d + 1) + 460) from (by first | exact oz_94fb430e83 | omega)⟩ hl.1 rfl (Nat.le_of_ble_eq_true rfl) d_Mpg_measureOne_167 ⟨Nat.le_of_ble_eq_true rfl, Nat.le_of_ble_eq_true rfl⟩) hw hA (fun p71 H locs hp71 hw => ?_)
      obtain ⟨cf70, rfl, e73, e74, e75, e76, e77, e78⟩ := hp71
      have e73 : KpT cf59 cf70 := e73
      have hkp := hkp.tr e73
      have hkf_e73 : (cf70 38).toInt = (cf 38).toInt := congrArg Int32.toInt (hkp 38 (by decide))
      have e74 : (cf59 59).toInt ≤ (cf70 59).toInt := e74
      have e75 : (cf70 59).toInt ≤ 4200 := e75
      have e76 : (cf70 30).toInt = (cf59 30).toInt := e76
      have e77 : HsB na ma0 ma (tkl na ma0 ca) d z68 (cf70 59).toInt := e77
      have e78 : RL_mp_measureOne d na ma ca z68 cf59 cf70 := e78
      have hw : pw D A s.heap H locs [wdP cs h r g tf ta pf na ma wa cf70 ca ef ea xf xa] := hw
      refine lv_aload_n S.x S.b d_Mpg_measureOne_170 rfl (lv_at hl 0 rfl) ?_
      refine px_get S k_Mpg hT hw 0 0 19 (v := .ref (r 19)) rfl rfl rfl (by decide) m10_5 d_Mpg_measureOne_171 ?_
      refine lv_iload_n S.x S.b d_Mpg_measureOne_174 rfl (lv_at hl 1 rfl) ?_
      refine px_iald S hT hw 0 15 (n := 2100) (f := (ma 19)) rfl gp_19 (x := p0) (vp_in_iff.mpr (by first | exact oz_4d5c74e9a9 hsr0.2.2.1 hbd.1 g1 hbd.2.1 hrg_z57.1 g2 hrg_z57.2.1 | (constructor <;> omega))) d_Mpg_measureOne_175 ?_
      refine lv_topi (fun z79 ez79 => ?_)
      have lz79 := Int32.le_toInt z79
      have uz79 := Int32.toInt_lt z79
      have ha_z79 : z79 = ma0 19 p0.toNatClampNeg := ez79.trans (Ann.b19 han (by omega)); have hn_z79 : z79.toInt = (ma0 19 p0.toNatClampNeg).toInt := (by rw [ha_z79])
      refine lv_if_lt (tgt := 267) S.x S.b d_Mpg_measureOne_176 (by decide) (fun c80 => ?_) (fun c80 => ?_)
      · have nc80 : z79.toInt < (0 : Int) := (i_lt (x := z79) (y := 0)).mp c80
        exact px_vret S hr hlk hAe hw (Nat.le_of_ble_eq_true rfl) (Nat.le_of_ble_eq_true rfl) (⟨cf70, rfl, (show KpT cf cf70 from hkp), (show (cf 59).toInt ≤ (cf70 59).toInt from by first | exact oz_be764f19f0 e63 e74 | omega), (show (cf70 59).toInt ≤ 4200 from by first | exact e75 | omega), (show (cf70 30).toInt = (cf 30).toInt from by first | exact oz_1687f4cc65 e65 e76 | omega), (show HsB na ma0 ma (tkl na ma0 ca) (d + 1) p0 (cf70 59).toInt from Or.inr (Or.inr (Or.inr (Or.inr (Or.inl (⟨by omega, by rw [← ha_z57]; exact (HgO.mono e66 (by omega)), by rw [← ha_z68]; exact (HsB.mono e77 (by omega)), Or.inl (by omega)⟩)))))), (show R_mp_measureOne (RL_mp_measureOne d) na ma ca p0 cf cf70 from (Exists.intro 1 (Or.inl ⟨rfl, z31, ez31, Or.inr (Or.inr (Or.inr (Or.inr (Or.inr (Or.inl ⟨c33, z57, ez57, cf59, e67, z68, ez68, cf70, e78, z79, ez79, Or.inl ⟨nc80, rfl⟩⟩)))))⟩)))⟩) d_Mpg_measureOne_267
      · have nc80 : ¬ z79.toInt < (0 : Int) := mt (i_lt (x := z79) (y := 0)).mpr c80
        refine lv_aload_n S.x S.b d_Mpg_measureOne_179 rfl (lv_at hl 0 rfl) ?_
        refine lv_aload_n S.x S.b d_Mpg_measureOne_180 rfl (lv_at hl 0 rfl) ?_
        refine px_get S k_Mpg hT hw 0 0 19 (v := .ref (r 19)) rfl rfl rfl (by decide) m10_5 d_Mpg_measureOne_181 ?_
        refine lv_iload_n S.x S.b d_Mpg_measureOne_184 rfl (lv_at hl 1 rfl) ?_
        refine px_iald S hT hw 0 15 (n := 2100) (f := (ma 19)) rfl gp_19 (x := p0) (vp_in_iff.mpr (by first | exact oz_4d5c74e9a9 hsr0.2.2.1 hbd.1 g1 hbd.2.1 hrg_z57.1 g2 hrg_z57.2.1 | (constructor <;> omega))) d_Mpg_measureOne_185 ?_
        refine lv_topi (fun z82 ez82 => ?_)
        have lz82 := Int32.le_toInt z82
        have uz82 := Int32.toInt_lt z82
        have ha_z82 : z82 = ma0 19 p0.toNatClampNeg := ez82.trans (Ann.b19 han (by omega)); have hn_z82 : z82.toInt = (ma0 19 p0.toNatClampNeg).toInt := (by rw [ha_z82]); have hsc_z82 : ScV ta (tf 6).toInt na ma0 d l3 hi w3 z82 := (by rw [ha_z82]; exact (hoc.get (by omega))); have hrg_z82 := ScV.rng hsc_z82; have hvt_z82 : V z82.toNatClampNeg t := (by rw [ez82]; exact (OpT.get hvc (by rw [Ann.b19 han (by omega)]; omega)))
        refine px_callv (pr := []) (px_runV (As := [.int z82]) (rest := []) S (hLQ ma0 ys ns nf l3 hi w3 t V vl vh h r g tf ta pf na ma wa ca ef ea xf xa cf70 z82 (show 0 ≤ l3 from by first | exact oz_0a7da9c4d6 hbd.2.2.2.2.1 hsr0.2.2.1 | omega) (show hi ≤ (pf 13).toInt from by first | exact g1 | omega) (show (pf 13).toInt ≤ 2100 from by first | exact g2 | omega) (show (tf 6).toInt ≤ 2049 from by first | exact g3 | omega) (show (cf70 38).toInt = nf from by first | exact oz_1687f4cc65 g4 hkf_e73 | omega) (show 0 ≤ nf from by first | exact g5 | omega) (show 0 ≤ (cf70 59).toInt from by first | exact oz_fe2fd2b0f6 e74 e63 g6 | omega) (show (cf70 59).toInt ≤ 4200 from by first | exact e75 | omega) (show 2 ≤ t from by first | exact g8 | omega) (show t ≤ 4 from by first | exact g9 | omega) htk (FnT.eq hft (by omega)) hfp han hts hsc_z82 hvt_z82 _) hT (pr := []) (pcs := [wdP cs h r g tf ta pf na ma wa cf70 ca ef ea xf xa]) hw (oX_call (P := (fun A U H => (oP A g U H))) (pr := []) oG_P hw hA hP) (px_recv hT hw 0 0 rfl rfl rfl) m13_57 m13_54 m13_56 ms_13_11 m1_21 q_Mpg_measureOne ⟨show (5 * d + 14) + 1 ≤ (5 * (d + 1) + 14) from (by first | exact oz_e908e9cca0 | omega), show 8 + (3 + 11) + (220 * d + 460) ≤ (220 * (d + 1) + 460) from (by first | exact oz_94fb430e83 | omega)⟩ hl.1 rfl (Nat.le_of_ble_eq_true rfl) d_Mpg_measureOne_186 ⟨Nat.le_of_ble_eq_true rfl, Nat.le_of_ble_eq_true rfl⟩) hw hA (fun p85 H locs hp85 hw => ?_)
        obtain ⟨cf84, rfl, e87, e88, e89, e90, e91, e92⟩ := hp85
        have e87 : KpT cf70 cf84 := e87
        have hkp := hkp.tr e87
        have hkf_e87 : (cf84 38).toInt = (cf 38).toInt := congrArg Int32.toInt (hkp 38 (by decide))
        have e88 : (cf70 59).toInt ≤ (cf84 59).toInt := e88
        have e89 : (cf84 59).toInt ≤ 4200 := e89
        have e90 : (cf84 30).toInt = (cf70 30).toInt := e90
        have e91 : HsB na ma0 ma (tkl na ma0 ca) d z82 (cf84 59).toInt := e91
        have e92 : RL_mp_measureOne d na ma ca z82 cf70 cf84 := e92
        have hw : pw D A s.heap H locs [wdP cs h r g tf ta pf na ma wa cf84 ca ef ea xf xa] := hw
        refine lv_goto (tgt := 267) S.x S.b d_Mpg_measureOne_189 (by decide) ?_
        exact px_vret S hr hlk hAe hw (Nat.le_of_ble_eq_true rfl) (Nat.le_of_ble_eq_true rfl) (⟨cf84, rfl, (show KpT cf cf84 from hkp), (show (cf 59).toInt ≤ (cf84 59).toInt from by first | exact oz_a2a3fc2367 e63 e88 e74 | omega), (show (cf84 59).toInt ≤ 4200 from by first | exact e89 | omega), (show (cf84 30).toInt = (cf 30).toInt from by first | exact oz_e13fc83238 e65 e90 e76 | omega), (show HsB na ma0 ma (tkl na ma0 ca) (d + 1) p0 (cf84 59).toInt from Or.inr (Or.inr (Or.inr (Or.inr (Or.inl (⟨by omega, by rw [← ha_z57]; exact (HgO.mono e66 (by omega)), by rw [← ha_z68]; exact (HsB.mono e77 (by omega)), Or.inr (by rw [← ha_z82]; exact (HsB.mono e91 (by omega)))⟩)))))), (show R_mp_measureOne (RL_mp_measureOne d) na ma ca p0 cf cf84 from (Exists.intro 1 (Or.inl ⟨rfl, z31, ez31, Or.inr (Or.inr (Or.inr (Or.inr (Or.inr (Or.inl ⟨c33, z57, ez57, cf59, e67, z68, ez68, cf70, e78, z79, ez79, Or.inr ⟨nc80, z82, ez82, cf84, e92, rfl⟩⟩)))))⟩)))⟩) d_Mpg_measureOne_267
    · simp only [List.mem_cons, List.not_mem_nil, or_false] at c33
      refine lv_aload_n S.x S.b d_Mpg_measureOne_192 rfl (lv_at hl 0 rfl) ?_
      refine px_get S k_Mpg hT hw 0 0 17 (v := .ref (r 17)) rfl rfl rfl (by decide) m10_1 d_Mpg_measureOne_193 ?_
      obtain ⟨m1, m2, m3, w1, w2, w3, w5, hm1, hm2, hm3, hm4, hoa, hob, hoc, hse, hws, hw1, hw2, hw3, hw5⟩ := ScV.s27 hsc (by omega) (z := na 17 p0.toNatClampNeg) (y := ma0 18 p0.toNatClampNeg) (x := ma0 19 p0.toNatClampNeg) (u := ma0 20 p0.toNatClampNeg) rfl rfl rfl rfl; have hru := ScV.rng hse; obtain ⟨hva, hvb, hvc, hvd⟩ := LcS.k27 hls (by omega)
      refine lv_iload_n S.x S.b d_Mpg_measureOne_196 rfl (lv_at hl 1 rfl) ?_
      refine px_iald S hT hw 0 13 (n := 2100) (f := (na 17)) rfl gp_17 (x := p0) (vp_in_iff.mpr (by first | exact oz_2334575e67 hsr0.2.2.1 hm1 g1 hm2 hru.2.1 g2 hm3 hru.1 | (constructor <;> omega))) d_Mpg_measureOne_197 ?_
      refine lv_topi (fun z93 ez93 => ?_)
      have lz93 := Int32.le_toInt z93
      have uz93 := Int32.toInt_lt z93
      have ha_z93 : z93 = na 17 p0.toNatClampNeg := ez93; have hn_z93 : z93.toInt = (na 17 p0.toNatClampNeg).toInt := (by rw [ha_z93])
      refine lv_if_lt (tgt := 211) S.x S.b d_Mpg_measureOne_198 (by decide) (fun c94 => ?_) (fun c94 => ?_)
      · have nc94 : z93.toInt < (0 : Int) := (i_lt (x := z93) (y := 0)).mp c94
        refine lv_aload_n S.x S.b d_Mpg_measureOne_211 rfl (lv_at hl 0 rfl) ?_
        refine lv_aload_n S.x S.b d_Mpg_measureOne_212 rfl (lv_at hl 0 rfl) ?_
        refine px_get S k_Mpg hT hw 0 0 18 (v := .ref (r 18)) rfl rfl rfl (by decide) m10_3 d_Mpg_measureOne_213 ?_
        refine lv_iload_n S.x S.b d_Mpg_measureOne_216 rfl (lv_at hl 1 rfl) ?_
        refine px_iald S hT hw 0 14 (n := 2100) (f := (ma 18)) rfl gp_18 (x := p0) (vp_in_iff.mpr (by first | exact oz_2334575e67 hsr0.2.2.1 hm1 g1 hm2 hru.2.1 g2 hm3 hru.1 | (constructor <;> omega))) d_Mpg_measureOne_217 ?_
        refine lv_topi (fun z96 ez96 => ?_)
        have lz96 := Int32.le_toInt z96
        have uz96 := Int32.toInt_lt z96
        have ha_z96 : z96 = ma0 18 p0.toNatClampNeg := ez96.trans (Ann.b18 han (by omega)); have hn_z96 : z96.toInt = (ma0 18 p0.toNatClampNeg).toInt := (by rw [ha_z96]); have hor_z96 : z96.toInt < 0 ∨ (EcV ta (tf 6).toInt na ma0 d m1 m2 z96 ∧ V z96.toNatClampNeg 0) := (by by_cases q9 : z96.toInt < 0; exact Or.inl q9; exact Or.inr ⟨by rw [ha_z96]; exact (ErV.ec (OcV.get hob (by omega))).1, by rw [ez96]; exact OpT.get hvb (by rw [← ez96]; omega)⟩)
        refine px_callv (pr := []) (px_runV (As := [.int z96]) (rest := []) S (c_mp_raise l D cs ma0 ys ns nf d m1 m2 V vl vh h r g tf ta pf na ma wa ca ef ea xf xa cf z96  (show 0 ≤ m1 from by first | exact oz_0a7da9c4d6 hm1 hsr0.2.2.1 | omega) (show m2 ≤ (pf 13).toInt from by first | exact oz_cabfece9a2 g1 hm3 hru.1 hru.2.1 | omega) (show (pf 13).toInt ≤ 2100 from by first | exact g2 | omega) (show (tf 6).toInt ≤ 2049 from by first | exact g3 | omega) (show (cf 38).toInt = nf from by first | exact g4 | omega) (show 0 ≤ nf from by first | exact g5 | omega) (show 0 ≤ (cf 59).toInt from by first | exact g6 | omega) (show (cf 59).toInt ≤ 4200 from by first | exact g7 | omega) htk (FnT.eq hft (by omega)) hfp han hts (hor_z96) _) hT (pr := []) (pcs := [wdP cs h r g tf ta pf na ma wa cf ca ef ea xf xa]) hw (oX_call (P := (fun A U H => (oP A g U H))) (pr := []) oG_P hw hA hP) (px_recv hT hw 0 0 rfl rfl rfl) m13_61 m13_58 m13_60 ms_13_12 m1_21 q_Mpg_raise ⟨show (2 * d + 9) + 1 ≤ (5 * (d + 1) + 14) from (by first | exact oz_cb83fcf286 | omega), show 8 + (3 + 11) + (100 * d + 300) ≤ (220 * (d + 1) + 460) from (by first | exact oz_7ec2de144a | omega)⟩ hl.1 rfl (Nat.le_of_ble_eq_true rfl) d_Mpg_measureOne_218 ⟨Nat.le_of_ble_eq_true rfl, Nat.le_of_ble_eq_true rfl⟩) hw hA (fun p99 H locs hp99 hw => ?_)
        obtain ⟨cf98, rfl, e101, e102, e103, e104, e105, e106⟩ := hp99
        have e101 : KpT cf cf98 := e101
        have hkp := hkp.tr e101
        have hkf_e101 : (cf98 38).toInt = (cf 38).toInt := congrArg Int32.toInt (hkp 38 (by decide))
        have e102 : (cf 59).toInt ≤ (cf98 59).toInt := e102
        have e103 : (cf98 59).toInt ≤ 4200 := e103
        have e104 : (cf98 30).toInt = (cf 30).toInt := e104
        have e105 : HgO na ma0 ma (tkl na ma0 ca) d z96 (cf98 59).toInt := e105
        have e106 : R_mp_raise na ma ca z96 cf cf98 := e106
        have hw : pw D A s.heap H locs [wdP cs h r g tf ta pf na ma wa cf98 ca ef ea xf xa] := hw
        refine lv_aload_n S.x S.b d_Mpg_measureOne_221 rfl (lv_at hl 0 rfl) ?_
        refine lv_aload_n S.x S.b d_Mpg_measureOne_222 rfl (lv_at hl 0 rfl) ?_
        refine px_get S k_Mpg hT hw 0 0 19 (v := .ref (r 19)) rfl rfl rfl (by decide) m10_5 d_Mpg_measureOne_223 ?_
        refine lv_iload_n S.x S.b d_Mpg_measureOne_226 rfl (lv_at hl 1 rfl) ?_
        refine px_iald S hT hw 0 15 (n := 2100) (f := (ma 19)) rfl gp_19 (x := p0) (vp_in_iff.mpr (by first | exact oz_2334575e67 hsr0.2.2.1 hm1 g1 hm2 hru.2.1 g2 hm3 hru.1 | (constructor <;> omega))) d_Mpg_measureOne_227 ?_
        refine lv_topi (fun z107 ez107 => ?_)
        have lz107 := Int32.le_toInt z107
        have uz107 := Int32.toInt_lt z107
        have ha_z107 : z107 = ma0 19 p0.toNatClampNeg := ez107.trans (Ann.b19 han (by omega)); have hn_z107 : z107.toInt = (ma0 19 p0.toNatClampNeg).toInt := (by rw [ha_z107]); have hor_z107 : z107.toInt < 0 ∨ (EcV ta (tf 6).toInt na ma0 d m2 m3 z107 ∧ V z107.toNatClampNeg 0) := (by by_cases q9 : z107.toInt < 0; exact Or.inl q9; exact Or.inr ⟨by rw [ha_z107]; exact (ErV.ec (OcV.get hoc (by omega))).1, by rw [ez107]; exact OpT.get hvc (by rw [← ez107]; omega)⟩)
        refine px_callv (pr := []) (px_runV (As := [.int z107]) (rest := []) S (c_mp_raise l D cs ma0 ys ns nf d m2 m3 V vl vh h r g tf ta pf na ma wa ca ef ea xf xa cf98 z107  (show 0 ≤ m2 from by first | exact oz_8df2b9da5a hm2 hm1 hsr0.2.2.1 | omega) (show m3 ≤ (pf 13).toInt from by first | exact oz_8d1dd37214 g1 hru.1 hru.2.1 | omega) (show (pf 13).toInt ≤ 2100 from by first | exact g2 | omega) (show (tf 6).toInt ≤ 2049 from by first | exact g3 | omega) (show (cf98 38).toInt = nf from by first | exact oz_1687f4cc65 g4 hkf_e101 | omega) (show 0 ≤ nf from by first | exact g5 | omega) (show 0 ≤ (cf98 59).toInt from by first | exact oz_16d7fa9f32 e102 g6 | omega) (show (cf98 59).toInt ≤ 4200 from by first | exact e103 | omega) htk (FnT.eq hft (by omega)) hfp han hts (hor_z107) _) hT (pr := []) (pcs := [wdP cs h r g tf ta pf na ma wa cf98 ca ef ea xf xa]) hw (oX_call (P := (fun A U H => (oP A g U H))) (pr := []) oG_P hw hA hP) (px_recv hT hw 0 0 rfl rfl rfl) m13_61 m13_58 m13_60 ms_13_12 m1_21 q_Mpg_raise ⟨show (2 * d + 9) + 1 ≤ (5 * (d + 1) + 14) from (by first | exact oz_cb83fcf286 | omega), show 8 + (3 + 11) + (100 * d + 300) ≤ (220 * (d + 1) + 460) from (by first | exact oz_7ec2de144a | omega)⟩ hl.1 rfl (Nat.le_of_ble_eq_true rfl) d_Mpg_measureOne_228 ⟨Nat.le_of_ble_eq_true rfl, Nat.le_of_ble_eq_true rfl⟩) hw hA (fun p110 H locs hp110 hw => ?_)
        obtain ⟨cf109, rfl, e112, e113, e114, e115, e116, e117⟩ := hp110
        have e112 : KpT cf98 cf109 := e112
        have hkp := hkp.tr e112
        have hkf_e112 : (cf109 38).toInt = (cf 38).toInt := congrArg Int32.toInt (hkp 38 (by decide))
        have e113 : (cf98 59).toInt ≤ (cf109 59).toInt := e113
        have e114 : (cf109 59).toInt ≤ 4200 := e114
        have e115 : (cf109 30).toInt = (cf98 30).toInt := e115
        have e116 : HgO na ma0 ma (tkl na ma0 ca) d z107 (cf109 59).toInt := e116
        have e117 : R_mp_raise na ma ca z107 cf98 cf109 := e117
        have hw : pw D A s.heap H locs [wdP cs h r g tf ta pf na ma wa cf109 ca ef ea xf xa] := hw
        refine lv_aload_n S.x S.b d_Mpg_measureOne_231 rfl (lv_at hl 0 rfl) ?_
        refine lv_aload_n S.x S.b d_Mpg_measureOne_232 rfl (lv_at hl 0 rfl) ?_
        refine px_get S k_Mpg hT hw 0 0 20 (v := .ref (r 20)) rfl rfl rfl (by decide) m10_6 d_Mpg_measureOne_233 ?_
        refine lv_iload_n S.x S.b d_Mpg_measureOne_236 rfl (lv_at hl 1 rfl) ?_
        refine px_iald S hT hw 0 16 (n := 2100) (f := (ma 20)) rfl gp_20 (x := p0) (vp_in_iff.mpr (by first | exact oz_2334575e67 hsr0.2.2.1 hm1 g1 hm2 hru.2.1 g2 hm3 hru.1 | (constructor <;> omega))) d_Mpg_measureOne_237 ?_
        refine lv_topi (fun z118 ez118 => ?_)
        have lz118 := Int32.le_toInt z118
        have uz118 := Int32.toInt_lt z118
        have ha_z118 : z118 = ma0 20 p0.toNatClampNeg := ez118.trans (Ann.b20 han (by omega) (by omega)); have hn_z118 : z118.toInt = (ma0 20 p0.toNatClampNeg).toInt := (by rw [ha_z118]); have hsc_z118 : ScV ta (tf 6).toInt na ma0 d m3 hi w5 z118 := (by rw [ha_z118]; exact hse); have hrg_z118 := ScV.rng hsc_z118; have hvt_z118 : V z118.toNatClampNeg 4 := (by rw [ez118]; exact hvd)
        refine px_callv (pr := []) (px_runV (As := [.int z118]) (rest := []) S (hLQ ma0 ys ns nf m3 hi w5 4 V vl vh h r g tf ta pf na ma wa ca ef ea xf xa cf109 z118 (show 0 ≤ m3 from by first | exact oz_3535899054 hm3 hm2 hsr0.2.2.1 hm1 | omega) (show hi ≤ (pf 13).toInt from by first | exact g1 | omega) (show (pf 13).toInt ≤ 2100 from by first | exact g2 | omega) (show (tf 6).toInt ≤ 2049 from by first | exact g3 | omega) (show (cf109 38).toInt = nf from by first | exact oz_1687f4cc65 g4 hkf_e112 | omega) (show 0 ≤ nf from by first | exact g5 | omega) (show 0 ≤ (cf109 59).toInt from by first | exact oz_fe2fd2b0f6 e113 e102 g6 | omega) (show (cf109 59).toInt ≤ 4200 from by first | exact e114 | omega) (show 2 ≤ 4 from by omega) (show 4 ≤ 4 from by omega) htk (FnT.eq hft (by omega)) hfp han hts hsc_z118 hvt_z118 _) hT (pr := []) (pcs := [wdP cs h r g tf ta pf na ma wa cf109 ca ef ea xf xa]) hw (oX_call (P := (fun A U H => (oP A g U H))) (pr := []) oG_P hw hA hP) (px_recv hT hw 0 0 rfl rfl rfl) m13_57 m13_54 m13_56 ms_13_11 m1_21 q_Mpg_measureOne ⟨show (5 * d + 14) + 1 ≤ (5 * (d + 1) + 14) from (by first | exact oz_e908e9cca0 | omega), show 8 + (3 + 11) + (220 * d + 460) ≤ (220 * (d + 1) + 460) from (by first | exact oz_94fb430e83 | omega)⟩ hl.1 rfl (Nat.le_of_ble_eq_true rfl) d_Mpg_measureOne_238 ⟨Nat.le_of_ble_eq_true rfl, Nat.le_of_ble_eq_true rfl⟩) hw hA (fun p121 H locs hp121 hw => ?_)
        obtain ⟨cf120, rfl, e123, e124, e125, e126, e127, e128⟩ := hp121
        have e123 : KpT cf109 cf120 := e123
        have hkp := hkp.tr e123
        have hkf_e123 : (cf120 38).toInt = (cf 38).toInt := congrArg Int32.toInt (hkp 38 (by decide))
        have e124 : (cf109 59).toInt ≤ (cf120 59).toInt := e124
        have e125 : (cf120 59).toInt ≤ 4200 := e125
        have e126 : (cf120 30).toInt = (cf109 30).toInt := e126
        have e127 : HsB na ma0 ma (tkl na ma0 ca) d z118 (cf120 59).toInt := e127
        have e128 : RL_mp_measureOne d na ma ca z118 cf109 cf120 := e128
        have hw : pw D A s.heap H locs [wdP cs h r g tf ta pf na ma wa cf120 ca ef ea xf xa] := hw
        refine lv_goto (tgt := 267) S.x S.b d_Mpg_measureOne_241 (by decide) ?_
        exact px_vret S hr hlk hAe hw (Nat.le_of_ble_eq_true rfl) (Nat.le_of_ble_eq_true rfl) (⟨cf120, rfl, (show KpT cf cf120 from hkp), (show (cf 59).toInt ≤ (cf120 59).toInt from by first | exact oz_a2a3fc2367 e102 e124 e113 | omega), (show (cf120 59).toInt ≤ 4200 from by first | exact e125 | omega), (show (cf120 30).toInt = (cf 30).toInt from by first | exact oz_e13fc83238 e104 e126 e115 | omega), (show HsB na ma0 ma (tkl na ma0 ca) (d + 1) p0 (cf120 59).toInt from Or.inr (Or.inr (Or.inr (Or.inr (Or.inr (Or.inl (⟨by omega, Or.inl (by omega), by rw [← ha_z96]; exact (HgO.mono e105 (by omega)), by rw [← ha_z107]; exact (HgO.mono e116 (by omega)), by rw [← ha_z118]; exact (HsB.mono e127 (by omega))⟩))))))), (show R_mp_measureOne (RL_mp_measureOne d) na ma ca p0 cf cf120 from (Exists.intro 1 (Or.inl ⟨rfl, z31, ez31, Or.inr (Or.inr (Or.inr (Or.inr (Or.inr (Or.inr (Or.inl ⟨c33, z93, ez93, Or.inl ⟨nc94, z96, ez96, cf98, e106, z107, ez107, cf109, e117, z118, ez118, cf120, e128, rfl⟩⟩))))))⟩)))⟩) d_Mpg_measureOne_267
      · have nc94 : ¬ z93.toInt < (0 : Int) := mt (i_lt (x := z93) (y := 0)).mpr c94
        refine lv_aload_n S.x S.b d_Mpg_measureOne_201 rfl (lv_at hl 0 rfl) ?_
        refine lv_aload_n S.x S.b d_Mpg_measureOne_202 rfl (lv_at hl 0 rfl) ?_
        refine px_get S k_Mpg hT hw 0 0 17 (v := .ref (r 17)) rfl rfl rfl (by decide) m10_1 d_Mpg_measureOne_203 ?_
        refine lv_iload_n S.x S.b d_Mpg_measureOne_206 rfl (lv_at hl 1 rfl) ?_
        refine px_iald S hT hw 0 13 (n := 2100) (f := (na 17)) rfl gp_17 (x := p0) (vp_in_iff.mpr (by first | exact oz_2334575e67 hsr0.2.2.1 hm1 g1 hm2 hru.2.1 g2 hm3 hru.1 | (constructor <;> omega))) d_Mpg_measureOne_207 ?_
        refine lv_topi (fun z129 ez129 => ?_)
        have lz129 := Int32.le_toInt z129
        have uz129 := Int32.toInt_lt z129
        have ha_z129 : z129 = na 17 p0.toNatClampNeg := ez129; have hn_z129 : z129.toInt = (na 17 p0.toNatClampNeg).toInt := (by rw [ha_z129]); have hsc_z129 : ScV ta (tf 6).toInt na ma0 d (p0.toInt + 1) m1 w1 z129 := (by rw [ha_z129]; exact (hoa.get (by omega))); have hrg_z129 := ScV.rng hsc_z129; have hvt_z129 : V z129.toNatClampNeg t := (by rw [ez129]; exact (OpT.get hva (by omega)))
        refine px_callv (pr := []) (px_runV (As := [.int z129]) (rest := []) S (hLQ ma0 ys ns nf (p0.toInt + 1) m1 w1 t V vl vh h r g tf ta pf na ma wa ca ef ea xf xa cf z129 (show 0 ≤ (p0.toInt + 1) from by first | exact oz_c12c169b81 hsr0.2.2.1 | omega) (show m1 ≤ (pf 13).toInt from by first | exact oz_9219fb40fa g1 hm2 hm3 hm4 | omega) (show (pf 13).toInt ≤ 2100 from by first | exact g2 | omega) (show (tf 6).toInt ≤ 2049 from by first | exact g3 | omega) (show (cf 38).toInt = nf from by first | exact g4 | omega) (show 0 ≤ nf from by first | exact g5 | omega) (show 0 ≤ (cf 59).toInt from by first | exact g6 | omega) (show (cf 59).toInt ≤ 4200 from by first | exact g7 | omega) (show 2 ≤ t from by first | exact g8 | omega) (show t ≤ 4 from by first | exact g9 | omega) htk (FnT.eq hft (by omega)) hfp han hts hsc_z129 hvt_z129 _) hT (pr := []) (pcs := [wdP cs h r g tf ta pf na ma wa cf ca ef ea xf xa]) hw (oX_call (P := (fun A U H => (oP A g U H))) (pr := []) oG_P hw hA hP) (px_recv hT hw 0 0 rfl rfl rfl) m13_57 m13_54 m13_56 ms_13_11 m1_21 q_Mpg_measureOne ⟨show (5 * d + 14) + 1 ≤ (5 * (d + 1) + 14) from (by first | exact oz_e908e9cca0 | omega), show 8 + (3 + 11) + (220 * d + 460) ≤ (220 * (d + 1) + 460) from (by first | exact oz_94fb430e83 | omega)⟩ hl.1 rfl (Nat.le_of_ble_eq_true rfl) d_Mpg_measureOne_208 ⟨Nat.le_of_ble_eq_true rfl, Nat.le_of_ble_eq_true rfl⟩) hw hA (fun p132 H locs hp132 hw => ?_)
        obtain ⟨cf131, rfl, e134, e135, e136, e137, e138, e139⟩ := hp132
        have e134 : KpT cf cf131 := e134
        have hkp := hkp.tr e134
        have hkf_e134 : (cf131 38).toInt = (cf 38).toInt := congrArg Int32.toInt (hkp 38 (by decide))
        have e135 : (cf 59).toInt ≤ (cf131 59).toInt := e135
        have e136 : (cf131 59).toInt ≤ 4200 := e136
        have e137 : (cf131 30).toInt = (cf 30).toInt := e137
        have e138 : HsB na ma0 ma (tkl na ma0 ca) d z129 (cf131 59).toInt := e138
        have e139 : RL_mp_measureOne d na ma ca z129 cf cf131 := e139
        have hw : pw D A s.heap H locs [wdP cs h r g tf ta pf na ma wa cf131 ca ef ea xf xa] := hw
        refine lv_aload_n S.x S.b d_Mpg_measureOne_211 rfl (lv_at hl 0 rfl) ?_
        refine lv_aload_n S.x S.b d_Mpg_measureOne_212 rfl (lv_at hl 0 rfl) ?_
        refine px_get S k_Mpg hT hw 0 0 18 (v := .ref (r 18)) rfl rfl rfl (by decide) m10_3 d_Mpg_measureOne_213 ?_
        refine lv_iload_n S.x S.b d_Mpg_measureOne_216 rfl (lv_at hl 1 rfl) ?_
        refine px_iald S hT hw 0 14 (n := 2100) (f := (ma 18)) rfl gp_18 (x := p0) (vp_in_iff.mpr (by first | exact oz_376db002e6 hsr0.2.2.1 hrg_z129.1 g1 hm2 hru.2.1 hrg_z129.2.1 g2 hm3 hru.1 | (constructor <;> omega))) d_Mpg_measureOne_217 ?_
        refine lv_topi (fun z140 ez140 => ?_)
        have lz140 := Int32.le_toInt z140
        have uz140 := Int32.toInt_lt z140
        have ha_z140 : z140 = ma0 18 p0.toNatClampNeg := ez140.trans (Ann.b18 han (by omega)); have hn_z140 : z140.toInt = (ma0 18 p0.toNatClampNeg).toInt := (by rw [ha_z140]); have hor_z140 : z140.toInt < 0 ∨ (EcV ta (tf 6).toInt na ma0 d m1 m2 z140 ∧ V z140.toNatClampNeg 0) := (by by_cases q9 : z140.toInt < 0; exact Or.inl q9; exact Or.inr ⟨by rw [ha_z140]; exact (ErV.ec (OcV.get hob (by omega))).1, by rw [ez140]; exact OpT.get hvb (by rw [← ez140]; omega)⟩)
        refine px_callv (pr := []) (px_runV (As := [.int z140]) (rest := []) S (c_mp_raise l D cs ma0 ys ns nf d m1 m2 V vl vh h r g tf ta pf na ma wa ca ef ea xf xa cf131 z140  (show 0 ≤ m1 from by first | exact oz_5b675c0aaa hrg_z129.2.1 hsr0.2.2.1 hrg_z129.1 | omega) (show m2 ≤ (pf 13).toInt from by first | exact oz_cabfece9a2 g1 hm3 hru.1 hru.2.1 | omega) (show (pf 13).toInt ≤ 2100 from by first | exact g2 | omega) (show (tf 6).toInt ≤ 2049 from by first | exact g3 | omega) (show (cf131 38).toInt = nf from by first | exact oz_1687f4cc65 g4 hkf_e134 | omega) (show 0 ≤ nf from by first | exact g5 | omega) (show 0 ≤ (cf131 59).toInt from by first | exact oz_16d7fa9f32 e135 g6 | omega) (show (cf131 59).toInt ≤ 4200 from by first | exact e136 | omega) htk (FnT.eq hft (by omega)) hfp han hts (hor_z140) _) hT (pr := []) (pcs := [wdP cs h r g tf ta pf na ma wa cf131 ca ef ea xf xa]) hw (oX_call (P := (fun A U H => (oP A g U H))) (pr := []) oG_P hw hA hP) (px_recv hT hw 0 0 rfl rfl rfl) m13_61 m13_58 m13_60 ms_13_12 m1_21 q_Mpg_raise ⟨show (2 * d + 9) + 1 ≤ (5 * (d + 1) + 14) from (by first | exact oz_cb83fcf286 | omega), show 8 + (3 + 11) + (100 * d + 300) ≤ (220 * (d + 1) + 460) from (by first | exact oz_7ec2de144a | omega)⟩ hl.1 rfl (Nat.le_of_ble_eq_true rfl) d_Mpg_measureOne_218 ⟨Nat.le_of_ble_eq_true rfl, Nat.le_of_ble_eq_true rfl⟩) hw hA (fun p143 H locs hp143 hw => ?_)
        obtain ⟨cf142, rfl, e145, e146, e147, e148, e149, e150⟩ := hp143
        have e145 : KpT cf131 cf142 := e145
        have hkp := hkp.tr e145
        have hkf_e145 : (cf142 38).toInt = (cf 38).toInt := congrArg Int32.toInt (hkp 38 (by decide))
        have e146 : (cf131 59).toInt ≤ (cf142 59).toInt := e146
        have e147 : (cf142 59).toInt ≤ 4200 := e147
        have e148 : (cf142 30).toInt = (cf131 30).toInt := e148
        have e149 : HgO na ma0 ma (tkl na ma0 ca) d z140 (cf142 59).toInt := e149
        have e150 : R_mp_raise na ma ca z140 cf131 cf142 := e150
        have hw : pw D A s.heap H locs [wdP cs h r g tf ta pf na ma wa cf142 ca ef ea xf xa] := hw
        refine lv_aload_n S.x S.b d_Mpg_measureOne_221 rfl (lv_at hl 0 rfl) ?_
        refine lv_aload_n S.x S.b d_Mpg_measureOne_222 rfl (lv_at hl 0 rfl) ?_
        refine px_get S k_Mpg hT hw 0 0 19 (v := .ref (r 19)) rfl rfl rfl (by decide) m10_5 d_Mpg_measureOne_223 ?_
        refine lv_iload_n S.x S.b d_Mpg_measureOne_226 rfl (lv_at hl 1 rfl) ?_
        refine px_iald S hT hw 0 15 (n := 2100) (f := (ma 19)) rfl gp_19 (x := p0) (vp_in_iff.mpr (by first | exact oz_376db002e6 hsr0.2.2.1 hrg_z129.1 g1 hm2 hru.2.1 hrg_z129.2.1 g2 hm3 hru.1 | (constructor <;> omega))) d_Mpg_measureOne_227 ?_
        refine lv_topi (fun z151 ez151 => ?_)
        have lz151 := Int32.le_toInt z151
        have uz151 := Int32.toInt_lt z151
        have ha_z151 : z151 = ma0 19 p0.toNatClampNeg := ez151.trans (Ann.b19 han (by omega)); have hn_z151 : z151.toInt = (ma0 19 p0.toNatClampNeg).toInt := (by rw [ha_z151]); have hor_z151 : z151.toInt < 0 ∨ (EcV ta (tf 6).toInt na ma0 d m2 m3 z151 ∧ V z151.toNatClampNeg 0) := (by by_cases q9 : z151.toInt < 0; exact Or.inl q9; exact Or.inr ⟨by rw [ha_z151]; exact (ErV.ec (OcV.get hoc (by omega))).1, by rw [ez151]; exact OpT.get hvc (by rw [← ez151]; omega)⟩)
        refine px_callv (pr := []) (px_runV (As := [.int z151]) (rest := []) S (c_mp_raise l D cs ma0 ys ns nf d m2 m3 V vl vh h r g tf ta pf na ma wa ca ef ea xf xa cf142 z151  (show 0 ≤ m2 from by first | exact oz_5ba337ca74 hm2 hrg_z129.2.1 hsr0.2.2.1 hrg_z129.1 | omega) (show m3 ≤ (pf 13).toInt from by first | exact oz_8d1dd37214 g1 hru.1 hru.2.1 | omega) (show (pf 13).toInt ≤ 2100 from by first | exact g2 | omega) (show (tf 6).toInt ≤ 2049 from by first | exact g3 | omega) (show (cf142 38).toInt = nf from by first | exact oz_1687f4cc65 g4 hkf_e145 | omega) (show 0 ≤ nf from by first | exact g5 | omega) (show 0 ≤ (cf142 59).toInt from by first | exact oz_fe2fd2b0f6 e146 e135 g6 | omega) (show (cf142 59).toInt ≤ 4200 from by first | exact e147 | omega) htk (FnT.eq hft (by omega)) hfp han hts (hor_z151) _) hT (pr := []) (pcs := [wdP cs h r g tf ta pf na ma wa cf142 ca ef ea xf xa]) hw (oX_call (P := (fun A U H => (oP A g U H))) (pr := []) oG_P hw hA hP) (px_recv hT hw 0 0 rfl rfl rfl) m13_61 m13_58 m13_60 ms_13_12 m1_21 q_Mpg_raise ⟨show (2 * d + 9) + 1 ≤ (5 * (d + 1) + 14) from (by first | exact oz_cb83fcf286 | omega), show 8 + (3 + 11) + (100 * d + 300) ≤ (220 * (d + 1) + 460) from (by first | exact oz_7ec2de144a | omega)⟩ hl.1 rfl (Nat.le_of_ble_eq_true rfl) d_Mpg_measureOne_228 ⟨Nat.le_of_ble_eq_true rfl, Nat.le_of_ble_eq_true rfl⟩) hw hA (fun p154 H locs hp154 hw => ?_)
        obtain ⟨cf153, rfl, e156, e157, e158, e159, e160, e161⟩ := hp154
        have e156 : KpT cf142 cf153 := e156
        have hkp := hkp.tr e156
        have hkf_e156 : (cf153 38).toInt = (cf 38).toInt := congrArg Int32.toInt (hkp 38 (by decide))
        have e157 : (cf142 59).toInt ≤ (cf153 59).toInt := e157
        have e158 : (cf153 59).toInt ≤ 4200 := e158
        have e159 : (cf153 30).toInt = (cf142 30).toInt := e159
        have e160 : HgO na ma0 ma (tkl na ma0 ca) d z151 (cf153 59).toInt := e160
        have e161 : R_mp_raise na ma ca z151 cf142 cf153 := e161
        have hw : pw D A s.heap H locs [wdP cs h r g tf ta pf na ma wa cf153 ca ef ea xf xa] := hw
        refine lv_aload_n S.x S.b d_Mpg_measureOne_231 rfl (lv_at hl 0 rfl) ?_
        refine lv_aload_n S.x S.b d_Mpg_measureOne_232 rfl (lv_at hl 0 rfl) ?_
        refine px_get S k_Mpg hT hw 0 0 20 (v := .ref (r 20)) rfl rfl rfl (by decide) m10_6 d_Mpg_measureOne_233 ?_
        refine lv_iload_n S.x S.b d_Mpg_measureOne_236 rfl (lv_at hl 1 rfl) ?_
        refine px_iald S hT hw 0 16 (n := 2100) (f := (ma 20)) rfl gp_20 (x := p0) (vp_in_iff.mpr (by first | exact oz_376db002e6 hsr0.2.2.1 hrg_z129.1 g1 hm2 hru.2.1 hrg_z129.2.1 g2 hm3 hru.1 | (constructor <;> omega))) d_Mpg_measureOne_237 ?_
        refine lv_topi (fun z162 ez162 => ?_)
        have lz162 := Int32.le_toInt z162
        have uz162 := Int32.toInt_lt z162
        have ha_z162 : z162 = ma0 20 p0.toNatClampNeg := ez162.trans (Ann.b20 han (by omega) (by omega)); have hn_z162 : z162.toInt = (ma0 20 p0.toNatClampNeg).toInt := (by rw [ha_z162]); have hsc_z162 : ScV ta (tf 6).toInt na ma0 d m3 hi w5 z162 := (by rw [ha_z162]; exact hse); have hrg_z162 := ScV.rng hsc_z162; have hvt_z162 : V z162.toNatClampNeg 4 := (by rw [ez162]; exact hvd)
        refine px_callv (pr := []) (px_runV (As := [.int z162]) (rest := []) S (hLQ ma0 ys ns nf m3 hi w5 4 V vl vh h r g tf ta pf na ma wa ca ef ea xf xa cf153 z162 (show 0 ≤ m3 from by first | exact oz_df1d141c94 hm3 hm2 hsr0.2.2.1 hrg_z129.1 hrg_z129.2.1 | omega) (show hi ≤ (pf 13).toInt from by first | exact g1 | omega) (show (pf 13).toInt ≤ 2100 from by first | exact g2 | omega) (show (tf 6).toInt ≤ 2049 from by first | exact g3 | omega) (show (cf153 38).toInt = nf from by first | exact oz_1687f4cc65 g4 hkf_e156 | omega) (show 0 ≤ nf from by first | exact g5 | omega) (show 0 ≤ (cf153 59).toInt from by first | exact oz_0764df89e1 e157 e146 e135 g6 | omega) (show (cf153 59).toInt ≤ 4200 from by first | exact e158 | omega) (show 2 ≤ 4 from by omega) (show 4 ≤ 4 from by omega) htk (FnT.eq hft (by omega)) hfp han hts hsc_z162 hvt_z162 _) hT (pr := []) (pcs := [wdP cs h r g tf ta pf na ma wa cf153 ca ef ea xf xa]) hw (oX_call (P := (fun A U H => (oP A g U H))) (pr := []) oG_P hw hA hP) (px_recv hT hw 0 0 rfl rfl rfl) m13_57 m13_54 m13_56 ms_13_11 m1_21 q_Mpg_measureOne ⟨show (5 * d + 14) + 1 ≤ (5 * (d + 1) + 14) from (by first | exact oz_e908e9cca0 | omega), show 8 + (3 + 11) + (220 * d + 460) ≤ (220 * (d + 1) + 460) from (by first | exact oz_94fb430e83 | omega)⟩ hl.1 rfl (Nat.le_of_ble_eq_true rfl) d_Mpg_measureOne_238 ⟨Nat.le_of_ble_eq_true rfl, Nat.le_of_ble_eq_true rfl⟩) hw hA (fun p165 H locs hp165 hw => ?_)
        obtain ⟨cf164, rfl, e167, e168, e169, e170, e171, e172⟩ := hp165
        have e167 : KpT cf153 cf164 := e167
        have hkp := hkp.tr e167
        have hkf_e167 : (cf164 38).toInt = (cf 38).toInt := congrArg Int32.toInt (hkp 38 (by decide))
        have e168 : (cf153 59).toInt ≤ (cf164 59).toInt := e168
        have e169 : (cf164 59).toInt ≤ 4200 := e169
        have e170 : (cf164 30).toInt = (cf153 30).toInt := e170
        have e171 : HsB na ma0 ma (tkl na ma0 ca) d z162 (cf164 59).toInt := e171
        have e172 : RL_mp_measureOne d na ma ca z162 cf153 cf164 := e172
        have hw : pw D A s.heap H locs [wdP cs h r g tf ta pf na ma wa cf164 ca ef ea xf xa] := hw
        refine lv_goto (tgt := 267) S.x S.b d_Mpg_measureOne_241 (by decide) ?_
        exact px_vret S hr hlk hAe hw (Nat.le_of_ble_eq_true rfl) (Nat.le_of_ble_eq_true rfl) (⟨cf164, rfl, (show KpT cf cf164 from hkp), (show (cf 59).toInt ≤ (cf164 59).toInt from by first | exact oz_9abb61197c e135 e168 e146 e157 | omega), (show (cf164 59).toInt ≤ 4200 from by first | exact e169 | omega), (show (cf164 30).toInt = (cf 30).toInt from by first | exact oz_ff3084e3c1 e137 e170 e148 e159 | omega), (show HsB na ma0 ma (tkl na ma0 ca) (d + 1) p0 (cf164 59).toInt from Or.inr (Or.inr (Or.inr (Or.inr (Or.inr (Or.inl (⟨by omega, Or.inr (by rw [← ha_z129]; exact (HsB.mono e138 (by omega))), by rw [← ha_z140]; exact (HgO.mono e149 (by omega)), by rw [← ha_z151]; exact (HgO.mono e160 (by omega)), by rw [← ha_z162]; exact (HsB.mono e171 (by omega))⟩))))))), (show R_mp_measureOne (RL_mp_measureOne d) na ma ca p0 cf cf164 from (Exists.intro 1 (Or.inl ⟨rfl, z31, ez31, Or.inr (Or.inr (Or.inr (Or.inr (Or.inr (Or.inr (Or.inl ⟨c33, z93, ez93, Or.inr ⟨nc94, z129, ez129, cf131, e139, z140, ez140, cf142, e150, z151, ez151, cf153, e161, z162, ez162, cf164, e172, rfl⟩⟩))))))⟩)))⟩) d_Mpg_measureOne_267
    · simp only [List.mem_cons, List.not_mem_nil, or_false] at c33
      refine lv_aload_n S.x S.b d_Mpg_measureOne_244 rfl (lv_at hl 0 rfl) ?_
      refine lv_aload_n S.x S.b d_Mpg_measureOne_245 rfl (lv_at hl 0 rfl) ?_
      obtain ⟨m1, w1, w2, hm1, hm3, hea, hrsA, hws, hw1⟩ := ScV.s28 hsc (by omega) (z := na 17 p0.toNatClampNeg) (y := ma0 18 p0.toNatClampNeg) rfl rfl; have hw2 := RvE.wp hrsA; obtain ⟨hva, hvb⟩ := LcS.k28 hls (by omega); have htsw := tsw_rng (t := t)
      refine px_get S k_Mpg hT hw 0 0 17 (v := .ref (r 17)) rfl rfl rfl (by decide) m10_1 d_Mpg_measureOne_246 ?_
      refine lv_iload_n S.x S.b d_Mpg_measureOne_249 rfl (lv_at hl 1 rfl) ?_
      refine px_iald S hT hw 0 13 (n := 2100) (f := (na 17)) rfl gp_17 (x := p0) (vp_in_iff.mpr (by first | exact oz_a7e05de1cd hsr0.2.2.1 hsr0.2.1 g1 g2 | (constructor <;> omega))) d_Mpg_measureOne_250 ?_
      refine lv_topi (fun z173 ez173 => ?_)
      have lz173 := Int32.le_toInt z173
      have uz173 := Int32.toInt_lt z173
      have ha_z173 : z173 = na 17 p0.toNatClampNeg := ez173; have hn_z173 : z173.toInt = (na 17 p0.toNatClampNeg).toInt := (by rw [ha_z173]); have hec_z173 : EcV ta (tf 6).toInt na ma0 d (p0.toInt + 1) m1 z173 := (by rw [ha_z173]; exact (ErV.ec hea).1); have hrg_z173 := EcV.rng hec_z173; have hvn_z173 : V z173.toNatClampNeg 0 := (by rw [ez173]; exact hva); have hor_z173 : z173.toInt < 0 ∨ (EcV ta (tf 6).toInt na ma0 d (p0.toInt + 1) m1 z173 ∧ V z173.toNatClampNeg 0) := Or.inr ⟨hec_z173, hvn_z173⟩
      refine px_callv (pr := []) (px_runV (As := [.int z173]) (rest := []) S (c_mp_raise l D cs ma0 ys ns nf d (p0.toInt + 1) m1 V vl vh h r g tf ta pf na ma wa ca ef ea xf xa cf z173  (show 0 ≤ (p0.toInt + 1) from by first | exact oz_c12c169b81 hsr0.2.2.1 | omega) (show m1 ≤ (pf 13).toInt from by first | exact oz_bbb5b20c1a g1 hm3 | omega) (show (pf 13).toInt ≤ 2100 from by first | exact g2 | omega) (show (tf 6).toInt ≤ 2049 from by first | exact g3 | omega) (show (cf 38).toInt = nf from by first | exact g4 | omega) (show 0 ≤ nf from by first | exact g5 | omega) (show 0 ≤ (cf 59).toInt from by first | exact g6 | omega) (show (cf 59).toInt ≤ 4200 from by first | exact g7 | omega) htk (FnT.eq hft (by omega)) hfp han hts (hor_z173) _) hT (pr := []) (pcs := [wdP cs h r g tf ta pf na ma wa cf ca ef ea xf xa]) hw (oX_call (P := (fun A U H => (oP A g U H))) (pr := []) oG_P hw hA hP) (px_recv hT hw 0 0 rfl rfl rfl) m13_61 m13_58 m13_60 ms_13_12 m1_21 q_Mpg_raise ⟨show (2 * d + 9) + 1 ≤ (5 * (d + 1) + 14) from (by first | exact oz_cb83fcf286 | omega), show 8 + (3 + 11) + (100 * d + 300) ≤ (220 * (d + 1) + 460) from (by first | exact oz_7ec2de144a | omega)⟩ hl.1 rfl (Nat.le_of_ble_eq_true rfl) d_Mpg_measureOne_251 ⟨Nat.le_of_ble_eq_true rfl, Nat.le_of_ble_eq_true rfl⟩) hw hA (fun p176 H locs hp176 hw => ?_)
      obtain ⟨cf175, rfl, e178, e179, e180, e181, e182, e183⟩ := hp176
      have e178 : KpT cf cf175 := e178
      have hkp := hkp.tr e178
      have hkf_e178 : (cf175 38).toInt = (cf 38).toInt := congrArg Int32.toInt (hkp 38 (by decide))
      have e179 : (cf 59).toInt ≤ (cf175 59).toInt := e179
      have e180 : (cf175 59).toInt ≤ 4200 := e180
      have e181 : (cf175 30).toInt = (cf 30).toInt := e181
      have e182 : HgO na ma0 ma (tkl na ma0 ca) d z173 (cf175 59).toInt := e182
      have e183 : R_mp_raise na ma ca z173 cf cf175 := e183
      have hw : pw D A s.heap H locs [wdP cs h r g tf ta pf na ma wa cf175 ca ef ea xf xa] := hw
      refine lv_aload_n S.x S.b d_Mpg_measureOne_254 rfl (lv_at hl 0 rfl) ?_
      refine lv_aload_n S.x S.b d_Mpg_measureOne_255 rfl (lv_at hl 0 rfl) ?_
      refine px_get S k_Mpg hT hw 0 0 18 (v := .ref (r 18)) rfl rfl rfl (by decide) m10_3 d_Mpg_measureOne_256 ?_
      refine lv_iload_n S.x S.b d_Mpg_measureOne_259 rfl (lv_at hl 1 rfl) ?_
      refine px_iald S hT hw 0 14 (n := 2100) (f := (ma 18)) rfl gp_18 (x := p0) (vp_in_iff.mpr (by first | exact oz_410a2b3a09 hsr0.2.2.1 hrg_z173.1 g1 hm3 hrg_z173.2.1 g2 | (constructor <;> omega))) d_Mpg_measureOne_260 ?_
      refine lv_topi (fun z184 ez184 => ?_)
      have lz184 := Int32.le_toInt z184
      have uz184 := Int32.toInt_lt z184
      have ha_z184 : z184 = ma0 18 p0.toNatClampNeg := ez184.trans (Ann.b18 han (by omega)); have hn_z184 : z184.toInt = (ma0 18 p0.toNatClampNeg).toInt := (by rw [ha_z184]); have hrs_z184 : RvS ta (tf 6).toInt na ma0 d m1 hi w2 z184 := (by rw [ha_z184]; exact hrsA); have hrw_z184 : RwV0 na V (if t = 4 then 4 else 3) z184 := (by rw [ez184]; exact hvb)
      refine px_callv (pr := []) (px_runV (As := [.int z184]) (rest := []) S (c_mp_measure l D cs ma0 ys ns nf d m1 hi w2 (if t = 4 then 4 else 3) V vl vh h r g tf ta pf na ma wa ca ef ea xf xa cf175 z184  (show 0 ≤ m1 from by first | exact oz_5b675c0aaa hrg_z173.2.1 hsr0.2.2.1 hrg_z173.1 | omega) (show hi ≤ (pf 13).toInt from by first | exact g1 | omega) (show (pf 13).toInt ≤ 2100 from by first | exact g2 | omega) (show (tf 6).toInt ≤ 2049 from by first | exact g3 | omega) (show (cf175 38).toInt = nf from by first | exact oz_1687f4cc65 g4 hkf_e178 | omega) (show 0 ≤ nf from by first | exact g5 | omega) (show 0 ≤ (cf175 59).toInt from by first | exact oz_16d7fa9f32 e179 g6 | omega) (show (cf175 59).toInt ≤ 4200 from by first | exact e180 | omega) (show m1 ≤ hi from by first | exact hm3 | omega) (show 0 ≤ w2 from by first | exact hw2 | omega) (show 2 ≤ (if t = 4 then 4 else 3) from by first | exact htsw.1 | omega) (show (if t = 4 then 4 else 3) ≤ 4 from by first | exact htsw.2 | omega) htk (FnT.eq hft (by omega)) hfp han hts hrs_z184 hrw_z184 hLQ _) hT (pr := []) (pcs := [wdP cs h r g tf ta pf na ma wa cf175 ca ef ea xf xa]) hw (oX_call (P := (fun A U H => (oP A g U H))) (pr := []) oG_P hw hA hP) (px_recv hT hw 0 0 rfl rfl rfl) m13_53 m13_50 m13_52 ms_13_10 m1_21 q_Mpg_measure ⟨show (5 * d + 15) + 1 ≤ (5 * (d + 1) + 14) from (by first | exact oz_ee2e824722 | omega), show 8 + (3 + 11) + (220 * d + 500) ≤ (220 * (d + 1) + 460) from (by first | exact oz_09d075cca2 | omega)⟩ hl.1 rfl (Nat.le_of_ble_eq_true rfl) d_Mpg_measureOne_261 ⟨Nat.le_of_ble_eq_true rfl, Nat.le_of_ble_eq_true rfl⟩) hw hA (fun p187 H locs hp187 hw => ?_)
      obtain ⟨cf186, rfl, e189, e190, e191, e192, e193, e194⟩ := hp187
      have e189 : KpT cf175 cf186 := e189
      have hkp := hkp.tr e189
      have hkf_e189 : (cf186 38).toInt = (cf 38).toInt := congrArg Int32.toInt (hkp 38 (by decide))
      have e190 : (cf175 59).toInt ≤ (cf186 59).toInt := e190
      have e191 : (cf186 59).toInt ≤ 4200 := e191
      have e192 : (cf186 30).toInt = (cf175 30).toInt := e192
      have e193 : HsW na ma0 ma (tkl na ma0 ca) d z184 (cf186 59).toInt := e193
      have e194 : R_mp_measure (RL_mp_measureOne d) na ma ca z184 cf175 cf186 := e194
      have hw : pw D A s.heap H locs [wdP cs h r g tf ta pf na ma wa cf186 ca ef ea xf xa] := hw
      refine lv_goto (tgt := 267) S.x S.b d_Mpg_measureOne_264 (by decide) ?_
      exact px_vret S hr hlk hAe hw (Nat.le_of_ble_eq_true rfl) (Nat.le_of_ble_eq_true rfl) (⟨cf186, rfl, (show KpT cf cf186 from hkp), (show (cf 59).toInt ≤ (cf186 59).toInt from by first | exact oz_be764f19f0 e179 e190 | omega), (show (cf186 59).toInt ≤ 4200 from by first | exact e191 | omega), (show (cf186 30).toInt = (cf 30).toInt from by first | exact oz_1687f4cc65 e181 e192 | omega), (show HsB na ma0 ma (tkl na ma0 ca) (d + 1) p0 (cf186 59).toInt from Or.inr (Or.inr (Or.inr (Or.inr (Or.inr (Or.inr ⟨by omega, by rw [← ha_z173]; exact (HgO.mono e182 (by omega)), by rw [← ha_z184]; exact e193⟩)))))), (show R_mp_measureOne (RL_mp_measureOne d) na ma ca p0 cf cf186 from (Exists.intro 1 (Or.inl ⟨rfl, z31, ez31, Or.inr (Or.inr (Or.inr (Or.inr (Or.inr (Or.inr (Or.inr ⟨c33, z173, ez173, cf175, e183, z184, ez184, cf186, e194, rfl⟩))))))⟩)))⟩) d_Mpg_measureOne_267
theorem msc_all (l : Launch) (D : va_G) (cs : Nat → ClassId) : ∀ d : Nat, MsC l D cs d := by
  intro d
  induction d with
  | zero => intro ma0 ys ns nf lo hi w t V vl vh h r g tf ta pf na ma wa ca ef ea xf xa cf p0 g0 g1 g2 g3 g4 g5 g6 g7 g8 g9 htk hft hfp han hts hsc hvt; exact (sc_0 hsc).elim
  | succ d ih => intro ma0 ys ns nf lo hi w t V vl vh h r g tf ta pf na ma wa ca ef ea xf xa cf p0 g0 g1 g2 g3 g4 g5 g6 g7 g8 g9 htk hft hfp han hts hsc hvt; exact c_mp_measureOne l D cs ma0 ys ns nf d lo hi w t V vl vh h r g tf ta pf na ma wa ca ef ea xf xa cf p0 g0 g1 g2 g3 g4 g5 g6 g7 g8 g9 htk hft hfp han hts hsc hvt ih
set_option maxHeartbeats 4000000 in
set_option maxRecDepth 100000 in
theorem c_S_measureOne (l : Launch) (D : va_G) (cs : Nat → ClassId) (ma0 : Nat → Nat → Int32) (ys : Int) (ns : Int) (nf : Int) (d : Nat) (lo : Int) (hi : Int) (w : Int) (t : Nat) (V : Nat → Nat → Prop) (vl : Int) (vh : Int) (h : Nat) (r : Nat → Nat) (g : Nat → Nat → Option Nat) (tf : Nat → Int32) (ta : Nat → Nat → Int32) (pf : Nat → Int32) (na : Nat → Nat → Int32) (ma : Nat → Nat → Int32) (wa : Nat → Nat → Int32) (ca : Nat → Nat → Int32) (ef : Nat → Int32) (ea : Nat → Nat → Int32) (xf : Nat → Int32) (xa : Nat → Nat → Int32) (cf : Nat → Int32) (p0 : Int32)  (g0 : 0 ≤ lo) (g1 : hi ≤ (pf 13).toInt) (g2 : (pf 13).toInt ≤ 2100) (g3 : (tf 6).toInt ≤ 2049) (g4 : (cf 38).toInt = nf) (g5 : 0 ≤ nf) (g6 : 0 ≤ (cf 59).toInt) (g7 : (cf 59).toInt ≤ 4200) (g8 : 2 ≤ t) (g9 : t ≤ 4) (htk : TkI tf ta) (hft : FnT (tf 6).toInt na ca (cf 38).toInt) (hfp : FnP na ca nf) (han : Ann na ma0 ma) (hts : Ts (Gk ta ca na ma0 ns ys nf) na ma vl vh V) (hsc : ScV ta (tf 6).toInt na ma0 d lo hi w p0) (hvt : V p0.toNatClampNeg t) : MetV l y_Mpg_measureOne b_Mpg_measureOne 3 D cs (5 * d + 14) (220 * d + 460) (0) (0) [.ref h, .int p0] [wdP cs h r g tf ta pf na ma wa cf ca ef ea xf xa] (oX (fun A U H => (oP A g U H)) [wdP cs h r g tf ta pf na ma wa cf ca ef ea xf xa]) (fun ps => ∃ (cf' : Nat → Int32), (ps = [wdP cs h r g tf ta pf na ma wa cf' ca ef ea xf xa]) ∧ (KpT cf cf') ∧ ((cf 59).toInt ≤ (cf' 59).toInt) ∧ ((cf' 59).toInt ≤ 4200) ∧ ((cf' 30).toInt = (cf 30).toInt) ∧ (HsB na ma0 ma (tkl na ma0 ca) d p0 (cf' 59).toInt) ∧ (RL_mp_measureOne d na ma ca p0 cf cf')) := by
  exact msc_all l D cs d ma0 ys ns nf lo hi w t V vl vh h r g tf ta pf na ma wa ca ef ea xf xa cf p0 g0 g1 g2 g3 g4 g5 g6 g7 g8 g9 htk hft hfp han hts hsc hvt
