theorem oz_0764df89e1 {a0 a1 a2 a3 : Int} (h0 : a1 ≤ a0) (h1 : a2 ≤ a1) (h2 : a3 ≤ a2) (h3 : 0 ≤ a3) : 0 ≤ a0 := by omega
theorem oz_9abb61197c {a0 a1 a2 a3 a4 : Int} (h0 : a0 ≤ a2) (h1 : a3 ≤ a1) (h2 : a2 ≤ a4) (h3 : a4 ≤ a3) : a0 ≤ a1 := by omega
theorem m13_58 : Cond.methodLink "HomeSystemModel$Program" 685 ⟨"HomeSystemModel$Program", "raise", "(I)V"⟩ ∈ AL := AL_13 (List.mem_of_getElem? (i := 58) rfl) rfl
theorem m13_61 : Cond.code ⟨"HomeSystemModel$Program", "raise", "(I)V"⟩ prog_16_method_99_code 3 (Option.none : Option Jvm.ClassFile.FieldType) ∈ AL := AL_13 (List.mem_of_getElem? (i := 61) rfl) rfl
theorem ms_13_12 : Cond.selects "HomeSystemModel$Program" ⟨"HomeSystemModel$Program", "raise", "(I)V"⟩ ⟨"HomeSystemModel$Program", "raise", "(I)V"⟩ ∈ AL := AL_p (q := (⟨"HomeSystemModel$Program", "raise", "(I)V"⟩, 69)) (by unfold lw_privs; exact List.mem_append_right _ (List.mem_append_right _ (List.mem_append_right _ (List.mem_append_right _ (List.mem_append_right _ (List.mem_append_right _ (List.mem_append_right _ (List.mem_append_right _ (List.mem_append_right _ (List.mem_append_right _ (List.mem_append_right _ (List.mem_append_right _ (List.mem_append_left _ (List.mem_of_getElem? (i := 12) rfl))))))))))))))
theorem m13_60 : Cond.instanceMethod ⟨"HomeSystemModel$Program", "raise", "(I)V"⟩ ∈ AL := AL_13 (List.mem_of_getElem? (i := 60) rfl) rfl
theorem m13_50 : Cond.methodLink "HomeSystemModel$Program" 676 ⟨"HomeSystemModel$Program", "measure", "(I)V"⟩ ∈ AL := AL_13 (List.mem_of_getElem? (i := 50) rfl) rfl
theorem m13_53 : Cond.code ⟨"HomeSystemModel$Program", "measure", "(I)V"⟩ prog_16_method_100_code 3 (Option.none : Option Jvm.ClassFile.FieldType) ∈ AL := AL_13 (List.mem_of_getElem? (i := 53) rfl) rfl
theorem ms_13_10 : Cond.selects "HomeSystemModel$Program" ⟨"HomeSystemModel$Program", "measure", "(I)V"⟩ ⟨"HomeSystemModel$Program", "measure", "(I)V"⟩ ∈ AL := AL_p (q := (⟨"HomeSystemModel$Program", "measure", "(I)V"⟩, 69)) (by unfold lw_privs; exact List.mem_append_right _ (List.mem_append_right _ (List.mem_append_right _ (List.mem_append_right _ (List.mem_append_right _ (List.mem_append_right _ (List.mem_append_right _ (List.mem_append_right _ (List.mem_append_right _ (List.mem_append_right _ (List.mem_append_right _ (List.mem_append_right _ (List.mem_append_left _ (List.mem_of_getElem? (i := 10) rfl))))))))))))))
theorem m13_52 : Cond.instanceMethod ⟨"HomeSystemModel$Program", "measure", "(I)V"⟩ ∈ AL := AL_13 (List.mem_of_getElem? (i := 52) rfl) rfl
set_option maxHeartbeats 4000000 in
set_option maxRecDepth 100000 in
theorem c_mp_measureOne (l : Launch) (D : va_G) (cs : Nat → ClassId) (ma0 : Nat → Nat → Int32) (ys : Int) (ns : Int) (nf : Int) (d : Nat) (lo : Int) (hi : Int) (w : Int) (t : Nat) (V : Nat → Nat → Prop) (vl : Int) (vh : Int) (h : Nat) (r : Nat → Nat) (g : Nat → Nat → Option Nat) (tf : Nat → Int32) (ta : Nat → Nat → Int32) (pf : Nat → Int32) (na : Nat → Nat → Int32) (ma : Nat → Nat → Int32) (wa : Nat → Nat → Int32) (ca : Nat → Nat → Int32) (ef : Nat → Int32) (ea : Nat → Nat → Int32) (xf : Nat → Int32) (xa : Nat → Nat → Int32) (cf : Nat → Int32) (p0 : Int32)  (g0 : 0 ≤ lo) (g1 : hi ≤ (pf 13).toInt) (g2 : (pf 13).toInt ≤ 2100) (g3 : (tf 6).toInt ≤ 2049) (g4 : (cf 38).toInt = nf) (g5 : 0 ≤ nf) (g6 : 0 ≤ (cf 59).toInt) (g7 : (cf 59).toInt ≤ 4200) (g8 : 2 ≤ t) (g9 : t ≤ 4) (htk : TkI tf ta) (hft : FnT (tf 6).toInt na ca (cf 38).toInt) (hfp : FnP na ca nf) (han : Ann na ma0 ma) (hts : Ts (Gk ta ca na ma0 ns ys nf) na ma vl vh V) (hsc : ScV ta (tf 6).toInt na ma0 (d + 1) lo hi w p0) (hvt : V p0.toNatClampNeg t) (hLQ : MsC l D cs d) : MetV l y_Mpg_measureOne b_Mpg_measureOne 3 D cs (5 * (d + 1) + 14) (220 * (d + 1) + 460) (0) (0) [.ref h, .int p0] [wdP cs h r g tf ta pf na ma wa cf ca ef ea xf xa] (oX (fun A U H => (oP A g U H)) [wdP cs h r g tf ta pf na ma wa cf ca ef ea xf xa]) (fun ps => ∃ (cf' : Nat → Int32), (ps = [wdP cs h r g tf ta pf na ma wa cf' ca ef ea xf xa]) ∧ (KpT cf cf') ∧ ((cf 59).toInt ≤ (cf' 59).toInt) ∧ ((cf' 59).toInt ≤ 4200) ∧ ((cf' 30).toInt = (cf 30).toInt) ∧ (HsB na ma0 ma (tkl na ma0 ca) (d + 1) p0 (cf' 59).toInt)) := by
  refine px_enter (by decide) (Nat.le_of_ble_eq_true rfl) ?_
  intro p e s m below meth c A ls hAe S hr hlk hnm hA hT hX hw hl
  replace hl : lv_has ls 3 [(0, .ref h), (1, .int p0)] := hl
  have lp0 := Int32.le_toInt p0
  have up0 := Int32.toInt_lt p0
  have cstm1 : ((-1) : Int32).toInt = (-1) := rfl
  have cst1 : (1 : Int32).toInt = 1 := rfl
  have hX : (fun A U H => (oP A g U H)) A s s.heap := by rw [hAe]; exact hX
  have hP := hX
  have hZ := hP.1
  have hF0 := hP.2.1
  have hkp : KpT cf cf := KpT.rf
  have hf11 := hft.1
  have hsr0 := ScV.rng hsc
  have hsc_p0 := hsc
  have hls := Ts.s hts hvt ⟨by first | with_reducible rfl | with_reducible assumption | omega, by first | with_reducible rfl | with_reducible assumption | omega⟩
  have J109 : ∀ (n_109 : Nat) (cf_109 : Nat → Int32) (mid_109 : Int) (wr_109 : Int) (x109_2 : Int32) (H : Heap) (locs : List Loc) (ls : Array Slot), (KpT cf cf_109) → ((cf 59).toInt ≤ (cf_109 59).toInt) → ((cf_109 59).toInt ≤ 4200) → ((cf_109 30).toInt = (cf 30).toInt) → (p0.toInt + 1 ≤ mid_109) → (mid_109 ≤ hi) → (0 ≤ wr_109) → ((na 14 p0.toNatClampNeg).toInt = 23) → (RvV ta (tf 6).toInt na ma0 d mid_109 hi wr_109 x109_2) → (RwV0 na V 5 x109_2) → (HvR na ma0 ma (tkl na ma0 ca) d (na 17 p0.toNatClampNeg) x109_2 (cf_109 59).toInt) → hi - mid_109 < (n_109 : Int) → pw D A s.heap H locs [wdP cs h r g tf ta pf na ma wa cf_109 ca ef ea xf xa] → lv_has ls 3 [(0, .ref h), (1, .int p0), (2, .int x109_2)] → W p l e { frames := (5 * (d + 1) + 14), cells := 0, slots := 0, locals := (220 * (d + 1) + 460) } s m [.ref h, .int p0].toArray below meth c H locs 0 0 (MQ below (va_Qv (fun ps => ∃ (cf' : Nat → Int32), (ps = [wdP cs h r g tf ta pf na ma wa cf' ca ef ea xf xa]) ∧ (KpT cf cf') ∧ ((cf 59).toInt ≤ (cf' 59).toInt) ∧ ((cf' 59).toInt ≤ 4200) ∧ ((cf' 30).toInt = (cf 30).toInt) ∧ (HsB na ma0 ma (tkl na ma0 ca) (d + 1) p0 (cf' 59).toInt)) (pc_B D (va_A ([wdP cs h r g tf ta pf na ma wa cf ca ef ea xf xa] : List va_W).flatten s.heap.size)) (va_A ([wdP cs h r g tf ta pf na ma wa cf ca ef ea xf xa] : List va_W).flatten s.heap.size)) [.ref h, .int p0].toArray s 0 0 A) (F0 m 109 ls []) := by
    intro  n_109
    induction n_109 with
    | zero =>
      intro cf_109 mid_109 wr_109 x109_2 H locs ls k109_0 k109_1 k109_2 k109_3 k109_4 k109_5 k109_6 k109_7 k109_8 k109_9 k109_10 hm hw hl
      have lx109_2 := Int32.le_toInt x109_2
      have ux109_2 := Int32.toInt_lt x109_2
      have hkp := k109_0
      have hkf : (cf_109 38).toInt = (cf 38).toInt := congrArg Int32.toInt (hkp 38 (by decide))
      have hrv := k109_8
      have hrw := k109_9
      have hvq := k109_10
      exact absurd hm (by first | with_reducible rfl | with_reducible assumption | omega)
    | succ n_109 ih109 =>
      intro cf_109 mid_109 wr_109 x109_2 H locs ls k109_0 k109_1 k109_2 k109_3 k109_4 k109_5 k109_6 k109_7 k109_8 k109_9 k109_10 hm hw hl
      have lx109_2 := Int32.le_toInt x109_2
      have ux109_2 := Int32.toInt_lt x109_2
      have hkp := k109_0
      have hkf : (cf_109 38).toInt = (cf 38).toInt := congrArg Int32.toInt (hkp 38 (by decide))
      have hrv := k109_8
      have hrw := k109_9
      have hvq := k109_10
      refine lv_iload_n S.x S.b d_Mpg_measureOne_109 rfl (lv_at hl 2 rfl) ?_
      refine lv_if_lt (tgt := 147) S.x S.b d_Mpg_measureOne_110 (by decide) (fun c1 => ?_) (fun c1 => ?_)
      · have nc1 : x109_2.toInt < (0 : Int) := (i_lt (x := x109_2) (y := 0)).mp c1
        refine lv_goto (tgt := 267) S.x S.b d_Mpg_measureOne_147 (by decide) ?_
        exact px_vret S hr hlk hAe hw (Nat.le_of_ble_eq_true rfl) (Nat.le_of_ble_eq_true rfl) (⟨cf_109, rfl, (show KpT cf cf_109 from hkp), (show (cf 59).toInt ≤ (cf_109 59).toInt from by first | exact k109_1 | omega), (show (cf_109 59).toInt ≤ 4200 from by first | exact k109_2 | omega), (show (cf_109 30).toInt = (cf 30).toInt from by first | exact k109_3 | omega), (show HsB na ma0 ma (tkl na ma0 ca) (d + 1) p0 (cf_109 59).toInt from (hvq.elim fun m9 g9 => Or.inr (Or.inr (Or.inr (Or.inl (⟨by first | with_reducible rfl | with_reducible assumption | omega, m9, g9.row (by first | with_reducible rfl | with_reducible assumption | omega)⟩))))))⟩) d_Mpg_measureOne_267
      · have nc1 : ¬ x109_2.toInt < (0 : Int) := mt (i_lt (x := x109_2) (y := 0)).mpr c1
        refine lv_aload_n S.x S.b d_Mpg_measureOne_113 rfl (lv_at hl 0 rfl) ?_
        obtain ⟨md2, wv3, hm1_md2, hm2_md2, hm3_md2, hvc_x109_2, hx3_md2, hrv2⟩ := RvE.step hrv (by first | with_reducible rfl | with_reducible assumption | omega); have hwp2 := RvE.wp hrv2; have hvr := VcV.rng hvc_x109_2; have hvk := VcV.kind hvc_x109_2; obtain ⟨hv5, hrw2⟩ := RwV0.go hrw (by first | with_reducible rfl | with_reducible assumption | omega) rfl
        refine lv_aload_n S.x S.b d_Mpg_measureOne_114 rfl (lv_at hl 0 rfl) ?_
        refine px_get S k_Mpg hT hw 0 0 22 (v := .ref (r 22)) rfl rfl rfl (by decide) m10_9 d_Mpg_measureOne_115 ?_
        refine lv_iload_n S.x S.b d_Mpg_measureOne_118 rfl (lv_at hl 2 rfl) ?_
        refine px_iald S hT hw 0 18 (n := 2100) (f := (ma 22)) rfl gp_22 (x := x109_2) (vp_in_iff.mpr (by constructor <;> omega)) d_Mpg_measureOne_119 ?_
        refine lv_topi (fun z4 ez4 => ?_)
        have lz4 := Int32.le_toInt z4
        have uz4 := Int32.toInt_lt z4
        have rz4 : z4.toInt = (ma0 22 x109_2.toNatClampNeg).toInt := (by rw [ez4, Ann.v22 han (by first | with_reducible rfl | with_reducible assumption | omega)])
        refine lv_iconst (v := 1) S.x S.b d_Mpg_measureOne_120 (by decide) ?_
        refine lv_icmp_ne (tgt := 133) S.x S.b d_Mpg_measureOne_121 (by decide) (fun c5 => ?_) (fun c5 => ?_)
        · have nc5 : ¬ z4.toInt = (1 : Int) := mt (i_eq (x := z4) (y := 1)).mpr c5
          refine lv_iconst (v := (-1)) S.x S.b d_Mpg_measureOne_133 (by decide) ?_
          refine px_callv (pr := []) (px_runV (As := [.int (-1)]) (rest := []) S (c_mp_raise l D cs ma0 ys ns nf d lo hi V vl vh h r g tf ta pf na ma wa ca ef ea xf xa cf_109 (-1)  (show 0 ≤ lo from by first | exact g0 | omega) (show hi ≤ (pf 13).toInt from by first | exact g1 | omega) (show (pf 13).toInt ≤ 2100 from by first | exact g2 | omega) (show (tf 6).toInt ≤ 2049 from by first | exact g3 | omega) (show (cf_109 38).toInt = nf from by first | exact oz_1687f4cc65 g4 hkf | omega) (show 0 ≤ nf from by first | exact g5 | omega) (show 0 ≤ (cf_109 59).toInt from by first | exact oz_16d7fa9f32 k109_1 g6 | omega) (show (cf_109 59).toInt ≤ 4200 from by first | exact k109_2 | omega) htk (FnT.eq hft (by first | with_reducible rfl | with_reducible assumption | omega)) hfp han hts (Or.inl (by decide)) _) hT (pr := []) (pcs := [wdP cs h r g tf ta pf na ma wa cf_109 ca ef ea xf xa]) hw (oX_call (P := (fun A U H => (oP A g U H))) (pr := []) oG_P hw hA hP) (px_recv hT hw 0 0 rfl rfl rfl) m13_61 m13_58 m13_60 ms_13_12 m1_21 q_Mpg_raise ⟨show (2 * d + 9) + 1 ≤ (5 * (d + 1) + 14) from by first | with_reducible rfl | with_reducible assumption | omega, show 8 + (3 + 11) + (100 * d + 300) ≤ (220 * (d + 1) + 460) from by first | with_reducible rfl | with_reducible assumption | omega⟩ hl.1 rfl (Nat.le_of_ble_eq_true rfl) d_Mpg_measureOne_134 ⟨Nat.le_of_ble_eq_true rfl, Nat.le_of_ble_eq_true rfl⟩) hw hA (fun p8 H locs hp8 hw => ?_)
          obtain ⟨cf7, rfl, e10, e11, e12, e13, e14⟩ := hp8
          replace e10 : KpT cf_109 cf7 := e10
          have hkp := hkp.tr e10
          have hkf_e10 : (cf7 38).toInt = (cf 38).toInt := congrArg Int32.toInt (hkp 38 (by decide))
          replace e11 : (cf_109 59).toInt ≤ (cf7 59).toInt := e11
          replace e12 : (cf7 59).toInt ≤ 4200 := e12
          replace e13 : (cf7 30).toInt = (cf_109 30).toInt := e13
          replace e14 : HgO na ma0 ma (tkl na ma0 ca) d (-1 : Int32) (cf7 59).toInt := e14
          replace hw : pw D A s.heap H locs [wdP cs h r g tf ta pf na ma wa cf7 ca ef ea xf xa] := hw
          refine lv_aload_n S.x S.b d_Mpg_measureOne_137 rfl (lv_at hl 0 rfl) ?_
          refine px_get S k_Mpg hT hw 0 0 21 (v := .ref (r 21)) rfl rfl rfl (by decide) m10_7 d_Mpg_measureOne_138 ?_
          refine lv_iload_n S.x S.b d_Mpg_measureOne_141 rfl (lv_at hl 2 rfl) ?_
          refine px_iald S hT hw 0 17 (n := 2100) (f := (na 21)) rfl gp_21 (x := x109_2) (vp_in_iff.mpr (by constructor <;> omega)) d_Mpg_measureOne_142 ?_
          refine lv_topi (fun z15 ez15 => ?_)
          have lz15 := Int32.le_toInt z15
          have uz15 := Int32.toInt_lt z15
          refine lv_istore_n (lv' := [(2, .int z15), (0, .ref h), (1, .int p0)]) S.x S.b d_Mpg_measureOne_143 rfl hl (by decide) rfl (fun ls hl => ?_)
          refine lv_goto (tgt := 109) S.x S.b d_Mpg_measureOne_144 (by decide) ?_
          exact ih109 cf7 md2 (wr_109 - wv3) z15 _ _ ls (show KpT cf cf7 from hkp) (show (cf 59).toInt ≤ (cf7 59).toInt from by first | exact oz_be764f19f0 k109_1 e11 | omega) (show (cf7 59).toInt ≤ 4200 from by first | exact e12 | omega) (show (cf7 30).toInt = (cf 30).toInt from by first | exact oz_1687f4cc65 k109_3 e13 | omega) (show p0.toInt + 1 ≤ md2 from by first | with_reducible rfl | with_reducible assumption | omega) (show md2 ≤ hi from by first | exact hm2_md2 | omega) (show 0 ≤ (wr_109 - wv3) from by first | with_reducible rfl | with_reducible assumption | omega) (show (na 14 p0.toNatClampNeg).toInt = 23 from by first | exact k109_7 | omega) (show RvV ta (tf 6).toInt na ma0 d md2 hi (wr_109 - wv3) z15 from (by rw [ez15]; exact hrv2)) (show RwV0 na V 5 z15 from (by rw [ez15]; exact hrw2)) (show HvR na ma0 ma (tkl na ma0 ca) d (na 17 p0.toNatClampNeg) z15 (cf7 59).toInt from (HvR.nx hvq (by first | with_reducible rfl | with_reducible assumption | omega) (fun q9 => absurd q9 (by first | with_reducible rfl | with_reducible assumption | omega)) ez15)) (show hi - md2 < (n_109 : Int) from by first | with_reducible rfl | with_reducible assumption | omega) hw (lv_sub hl [1, 2, 0] rfl)
        · have nc5 : z4.toInt = (1 : Int) := (i_eq (x := z4) (y := 1)).mp c5
          refine lv_aload_n S.x S.b d_Mpg_measureOne_124 rfl (lv_at hl 0 rfl) ?_
          refine px_get S k_Mpg hT hw 0 0 18 (v := .ref (r 18)) rfl rfl rfl (by decide) m10_3 d_Mpg_measureOne_125 ?_
          refine lv_iload_n S.x S.b d_Mpg_measureOne_128 rfl (lv_at hl 2 rfl) ?_
          refine px_iald S hT hw 0 14 (n := 2100) (f := (ma 18)) rfl gp_18 (x := x109_2) (vp_in_iff.mpr (by constructor <;> omega)) d_Mpg_measureOne_129 ?_
          refine lv_topi (fun z16 ez16 => ?_)
          have lz16 := Int32.le_toInt z16
          have uz16 := Int32.toInt_lt z16
          have hneg : (na 17 x109_2.toNatClampNeg).toInt < 0 := VcV.neg hvc_x109_2 (by first | with_reducible rfl | with_reducible assumption | omega); have ha_z16 : z16 = ma0 18 x109_2.toNatClampNeg := ez16.trans (Ann.v18 han (by first | with_reducible rfl | with_reducible assumption | omega)); have hev_z16 := VcV.v11 hvc_x109_2 hneg (by first | with_reducible rfl | with_reducible assumption | omega) ha_z16; obtain ⟨hec_z16, h20_z16, hw_z16⟩ := hev_z16.ec; have hrg_z16 := EcV.rng hec_z16; have hvn_z16 : V z16.toNatClampNeg 0 := (by rw [ez16]; exact LcV.i1 (Ts.v hts hv5) hneg (by rw [Ann.v22 han (by first | with_reducible rfl | with_reducible assumption | omega)]; omega)); have hor_z16 : z16.toInt < 0 ∨ (EcV ta (tf 6).toInt na ma0 d (x109_2.toInt + 1) md2 z16 ∧ V z16.toNatClampNeg 0) := Or.inr ⟨hec_z16, hvn_z16⟩
          refine lv_goto (tgt := 134) S.x S.b d_Mpg_measureOne_130 (by decide) ?_
          refine px_callv (pr := []) (px_runV (As := [.int z16]) (rest := []) S (c_mp_raise l D cs ma0 ys ns nf d (x109_2.toInt + 1) md2 V vl vh h r g tf ta pf na ma wa ca ef ea xf xa cf_109 z16  (show 0 ≤ (x109_2.toInt + 1) from by first | exact oz_0073e084eb nc1 | omega) (show md2 ≤ (pf 13).toInt from by first | exact oz_bbb5b20c1a g1 hm2_md2 | omega) (show (pf 13).toInt ≤ 2100 from by first | exact g2 | omega) (show (tf 6).toInt ≤ 2049 from by first | exact g3 | omega) (show (cf_109 38).toInt = nf from by first | exact oz_1687f4cc65 g4 hkf | omega) (show 0 ≤ nf from by first | exact g5 | omega) (show 0 ≤ (cf_109 59).toInt from by first | exact oz_16d7fa9f32 k109_1 g6 | omega) (show (cf_109 59).toInt ≤ 4200 from by first | exact k109_2 | omega) htk (FnT.eq hft (by first | with_reducible rfl | with_reducible assumption | omega)) hfp han hts (hor_z16) _) hT (pr := []) (pcs := [wdP cs h r g tf ta pf na ma wa cf_109 ca ef ea xf xa]) hw (oX_call (P := (fun A U H => (oP A g U H))) (pr := []) oG_P hw hA hP) (px_recv hT hw 0 0 rfl rfl rfl) m13_61 m13_58 m13_60 ms_13_12 m1_21 q_Mpg_raise ⟨show (2 * d + 9) + 1 ≤ (5 * (d + 1) + 14) from by first | with_reducible rfl | with_reducible assumption | omega, show 8 + (3 + 11) + (100 * d + 300) ≤ (220 * (d + 1) + 460) from by first | with_reducible rfl | with_reducible assumption | omega⟩ hl.1 rfl (Nat.le_of_ble_eq_true rfl) d_Mpg_measureOne_134 ⟨Nat.le_of_ble_eq_true rfl, Nat.le_of_ble_eq_true rfl⟩) hw hA (fun p19 H locs hp19 hw => ?_)
          obtain ⟨cf18, rfl, e21, e22, e23, e24, e25⟩ := hp19
          replace e21 : KpT cf_109 cf18 := e21
          have hkp := hkp.tr e21
          have hkf_e21 : (cf18 38).toInt = (cf 38).toInt := congrArg Int32.toInt (hkp 38 (by decide))
          replace e22 : (cf_109 59).toInt ≤ (cf18 59).toInt := e22
          replace e23 : (cf18 59).toInt ≤ 4200 := e23
          replace e24 : (cf18 30).toInt = (cf_109 30).toInt := e24
          replace e25 : HgO na ma0 ma (tkl na ma0 ca) d z16 (cf18 59).toInt := e25
          replace hw : pw D A s.heap H locs [wdP cs h r g tf ta pf na ma wa cf18 ca ef ea xf xa] := hw
          refine lv_aload_n S.x S.b d_Mpg_measureOne_137 rfl (lv_at hl 0 rfl) ?_
          refine px_get S k_Mpg hT hw 0 0 21 (v := .ref (r 21)) rfl rfl rfl (by decide) m10_7 d_Mpg_measureOne_138 ?_
          refine lv_iload_n S.x S.b d_Mpg_measureOne_141 rfl (lv_at hl 2 rfl) ?_
          refine px_iald S hT hw 0 17 (n := 2100) (f := (na 21)) rfl gp_21 (x := x109_2) (vp_in_iff.mpr (by constructor <;> omega)) d_Mpg_measureOne_142 ?_
          refine lv_topi (fun z26 ez26 => ?_)
          have lz26 := Int32.le_toInt z26
          have uz26 := Int32.toInt_lt z26
          refine lv_istore_n (lv' := [(2, .int z26), (0, .ref h), (1, .int p0)]) S.x S.b d_Mpg_measureOne_143 rfl hl (by decide) rfl (fun ls hl => ?_)
          refine lv_goto (tgt := 109) S.x S.b d_Mpg_measureOne_144 (by decide) ?_
          exact ih109 cf18 md2 (wr_109 - wv3) z26 _ _ ls (show KpT cf cf18 from hkp) (show (cf 59).toInt ≤ (cf18 59).toInt from by first | exact oz_be764f19f0 k109_1 e22 | omega) (show (cf18 59).toInt ≤ 4200 from by first | exact e23 | omega) (show (cf18 30).toInt = (cf 30).toInt from by first | exact oz_1687f4cc65 k109_3 e24 | omega) (show p0.toInt + 1 ≤ md2 from by first | with_reducible rfl | with_reducible assumption | omega) (show md2 ≤ hi from by first | exact hm2_md2 | omega) (show 0 ≤ (wr_109 - wv3) from by first | with_reducible rfl | with_reducible assumption | omega) (show (na 14 p0.toNatClampNeg).toInt = 23 from by first | exact k109_7 | omega) (show RvV ta (tf 6).toInt na ma0 d md2 hi (wr_109 - wv3) z26 from (by rw [ez26]; exact hrv2)) (show RwV0 na V 5 z26 from (by rw [ez26]; exact hrw2)) (show HvR na ma0 ma (tkl na ma0 ca) d (na 17 p0.toNatClampNeg) z26 (cf18 59).toInt from (HvR.nx hvq (by first | with_reducible rfl | with_reducible assumption | omega) (fun q9 => Or.inr (by rw [← ha_z16]; exact (HgO.mono e25 (by first | with_reducible rfl | with_reducible assumption | omega)).elim (fun r9 => absurd r9 (by first | with_reducible rfl | with_reducible assumption | omega)) id)) ez26)) (show hi - md2 < (n_109 : Int) from by first | with_reducible rfl | with_reducible assumption | omega) hw (lv_sub hl [1, 2, 0] rfl)
  refine lv_aload_n S.x S.b d_Mpg_measureOne_0 rfl (lv_at hl 0 rfl) ?_
  refine px_get S k_Mpg hT hw 0 0 14 (v := .ref (r 14)) rfl rfl rfl (by decide) m9_238 d_Mpg_measureOne_1 ?_
  refine lv_iload_n S.x S.b d_Mpg_measureOne_4 rfl (lv_at hl 1 rfl) ?_
  refine px_bald S hT hw 0 10 (n := 2100) (f := (na 14)) rfl gp_14 (x := p0) (vp_in_iff.mpr (by first | exact oz_a7e05de1cd hsr0.2.2.1 hsr0.2.1 g1 g2 | (constructor <;> omega))) d_Mpg_measureOne_5 ?_
  refine lv_topi (fun z27 ez27 => ?_)
  have lz27 := Int32.le_toInt z27
  have uz27 := Int32.toInt_lt z27
  have rz27 := ScV.kd hsc_p0 ez27
  refine px_tableD S (dt := 267) [(76, [20]), (267, [21, 29, 30, 31, 32]), (89, [22, 33]), (102, [23]), (150, [24, 25, 26]), (192, [27]), (244, [28])] d_Mpg_measureOne_6 (by decide +kernel) (by decide) (by decide +kernel) ?_ ?_
  · intro hdf_6
    exact px_vret S hr hlk hAe hw (Nat.le_of_ble_eq_true rfl) (Nat.le_of_ble_eq_true rfl) (⟨cf, rfl, (show KpT cf cf from hkp), (show (cf 59).toInt ≤ (cf 59).toInt from by first | exact oz_1cb5f934a5 | omega), (show (cf 59).toInt ≤ 4200 from by first | exact g7 | omega), (show (cf 30).toInt = (cf 30).toInt from rfl), (show HsB na ma0 ma (tkl na ma0 ca) (d + 1) p0 (cf 59).toInt from (Or.inl (by first | with_reducible rfl | with_reducible assumption | omega)))⟩) d_Mpg_measureOne_267
  · refine List.forall_mem_cons.mpr ⟨fun c28 => ?_, List.forall_mem_cons.mpr ⟨fun c28 => ?_, List.forall_mem_cons.mpr ⟨fun c28 => ?_, List.forall_mem_cons.mpr ⟨fun c28 => ?_, List.forall_mem_cons.mpr ⟨fun c28 => ?_, List.forall_mem_cons.mpr ⟨fun c28 => ?_, List.forall_mem_cons.mpr ⟨fun c28 => ?_, fun _ h => absurd h List.not_mem_nil⟩⟩⟩⟩⟩⟩⟩
    · simp only [List.mem_cons, List.not_mem_nil, or_false] at c28
      refine lv_aload_n S.x S.b d_Mpg_measureOne_76 rfl (lv_at hl 0 rfl) ?_
      refine lv_aload_n S.x S.b d_Mpg_measureOne_77 rfl (lv_at hl 0 rfl) ?_
      have hrs20 := ScV.s20 hsc (by first | with_reducible rfl | with_reducible assumption | omega) (z := na 17 p0.toNatClampNeg) rfl; have hvw := LcS.k20 hls (by first | with_reducible rfl | with_reducible assumption | omega)
      refine px_get S k_Mpg hT hw 0 0 17 (v := .ref (r 17)) rfl rfl rfl (by decide) m10_1 d_Mpg_measureOne_78 ?_
      refine lv_iload_n S.x S.b d_Mpg_measureOne_81 rfl (lv_at hl 1 rfl) ?_
      refine px_iald S hT hw 0 13 (n := 2100) (f := (na 17)) rfl gp_17 (x := p0) (vp_in_iff.mpr (by first | exact oz_a7e05de1cd hsr0.2.2.1 hsr0.2.1 g1 g2 | (constructor <;> omega))) d_Mpg_measureOne_82 ?_
      refine lv_topi (fun z29 ez29 => ?_)
      have lz29 := Int32.le_toInt z29
      have uz29 := Int32.toInt_lt z29
      have ha_z29 : z29 = na 17 p0.toNatClampNeg := ez29; have hn_z29 : z29.toInt = (na 17 p0.toNatClampNeg).toInt := (by rw [ha_z29]); have hrs_z29 : RvS ta (tf 6).toInt na ma0 d (p0.toInt + 1) hi w z29 := (by rw [ha_z29]; exact hrs20); have hrw_z29 : RwV0 na V t z29 := (by rw [ez29]; exact hvw)
      refine px_callv (pr := []) (px_runV (As := [.int z29]) (rest := []) S (c_mp_measure l D cs ma0 ys ns nf d (p0.toInt + 1) hi w t V vl vh h r g tf ta pf na ma wa ca ef ea xf xa cf z29  (show 0 ≤ (p0.toInt + 1) from by first | exact oz_c12c169b81 hsr0.2.2.1 | omega) (show hi ≤ (pf 13).toInt from by first | exact g1 | omega) (show (pf 13).toInt ≤ 2100 from by first | exact g2 | omega) (show (tf 6).toInt ≤ 2049 from by first | exact g3 | omega) (show (cf 38).toInt = nf from by first | exact g4 | omega) (show 0 ≤ nf from by first | exact g5 | omega) (show 0 ≤ (cf 59).toInt from by first | exact g6 | omega) (show (cf 59).toInt ≤ 4200 from by first | exact g7 | omega) (show (p0.toInt + 1) ≤ hi from by first | exact oz_8cd8185cc8 hsr0.2.1 | omega) (show 0 ≤ w from by first | exact hsr0.2.2.2 | omega) (show 2 ≤ t from by first | exact g8 | omega) (show t ≤ 4 from by first | exact g9 | omega) htk (FnT.eq hft (by first | with_reducible rfl | with_reducible assumption | omega)) hfp han hts hrs_z29 hrw_z29 hLQ _) hT (pr := []) (pcs := [wdP cs h r g tf ta pf na ma wa cf ca ef ea xf xa]) hw (oX_call (P := (fun A U H => (oP A g U H))) (pr := []) oG_P hw hA hP) (px_recv hT hw 0 0 rfl rfl rfl) m13_53 m13_50 m13_52 ms_13_10 m1_21 q_Mpg_measure ⟨show (5 * d + 15) + 1 ≤ (5 * (d + 1) + 14) from by first | with_reducible rfl | with_reducible assumption | omega, show 8 + (3 + 11) + (220 * d + 500) ≤ (220 * (d + 1) + 460) from by first | with_reducible rfl | with_reducible assumption | omega⟩ hl.1 rfl (Nat.le_of_ble_eq_true rfl) d_Mpg_measureOne_83 ⟨Nat.le_of_ble_eq_true rfl, Nat.le_of_ble_eq_true rfl⟩) hw hA (fun p32 H locs hp32 hw => ?_)
      obtain ⟨cf31, rfl, e34, e35, e36, e37, e38⟩ := hp32
      replace e34 : KpT cf cf31 := e34
      have hkp := hkp.tr e34
      have hkf_e34 : (cf31 38).toInt = (cf 38).toInt := congrArg Int32.toInt (hkp 38 (by decide))
      replace e35 : (cf 59).toInt ≤ (cf31 59).toInt := e35
      replace e36 : (cf31 59).toInt ≤ 4200 := e36
      replace e37 : (cf31 30).toInt = (cf 30).toInt := e37
      replace e38 : HsW na ma0 ma (tkl na ma0 ca) d z29 (cf31 59).toInt := e38
      replace hw : pw D A s.heap H locs [wdP cs h r g tf ta pf na ma wa cf31 ca ef ea xf xa] := hw
      refine lv_goto (tgt := 267) S.x S.b d_Mpg_measureOne_86 (by decide) ?_
      exact px_vret S hr hlk hAe hw (Nat.le_of_ble_eq_true rfl) (Nat.le_of_ble_eq_true rfl) (⟨cf31, rfl, (show KpT cf cf31 from hkp), (show (cf 59).toInt ≤ (cf31 59).toInt from by first | exact e35 | omega), (show (cf31 59).toInt ≤ 4200 from by first | exact e36 | omega), (show (cf31 30).toInt = (cf 30).toInt from by first | exact e37 | omega), (show HsB na ma0 ma (tkl na ma0 ca) (d + 1) p0 (cf31 59).toInt from Or.inr (Or.inl (⟨by first | with_reducible rfl | with_reducible assumption | omega, by rw [← ha_z29]; exact e38⟩)))⟩) d_Mpg_measureOne_267
    · simp only [List.mem_cons, List.not_mem_nil, or_false] at c28
      exact px_vret S hr hlk hAe hw (Nat.le_of_ble_eq_true rfl) (Nat.le_of_ble_eq_true rfl) (⟨cf, rfl, (show KpT cf cf from hkp), (show (cf 59).toInt ≤ (cf 59).toInt from by first | exact oz_1cb5f934a5 | omega), (show (cf 59).toInt ≤ 4200 from by first | exact g7 | omega), (show (cf 30).toInt = (cf 30).toInt from rfl), (show HsB na ma0 ma (tkl na ma0 ca) (d + 1) p0 (cf 59).toInt from (Or.inl (by first | with_reducible rfl | with_reducible assumption | omega)))⟩) d_Mpg_measureOne_267
    · simp only [List.mem_cons, List.not_mem_nil, or_false] at c28
      refine lv_aload_n S.x S.b d_Mpg_measureOne_89 rfl (lv_at hl 0 rfl) ?_
      refine lv_aload_n S.x S.b d_Mpg_measureOne_90 rfl (lv_at hl 0 rfl) ?_
      have hoe := ScV.s223 hsc (by first | with_reducible rfl | with_reducible assumption | omega); have hvo := LcS.k223 hls (by first | with_reducible rfl | with_reducible assumption | omega)
      refine px_get S k_Mpg hT hw 0 0 17 (v := .ref (r 17)) rfl rfl rfl (by decide) m10_1 d_Mpg_measureOne_91 ?_
      refine lv_iload_n S.x S.b d_Mpg_measureOne_94 rfl (lv_at hl 1 rfl) ?_
      refine px_iald S hT hw 0 13 (n := 2100) (f := (na 17)) rfl gp_17 (x := p0) (vp_in_iff.mpr (by first | exact oz_a7e05de1cd hsr0.2.2.1 hsr0.2.1 g1 g2 | (constructor <;> omega))) d_Mpg_measureOne_95 ?_
      refine lv_topi (fun z39 ez39 => ?_)
      have lz39 := Int32.le_toInt z39
      have uz39 := Int32.toInt_lt z39
      have ha_z39 : z39 = na 17 p0.toNatClampNeg := ez39; have hn_z39 : z39.toInt = (na 17 p0.toNatClampNeg).toInt := (by rw [ha_z39]); have hor_z39 : z39.toInt < 0 ∨ (EcV ta (tf 6).toInt na ma0 d (p0.toInt + 1) hi z39 ∧ V z39.toNatClampNeg 0) := (by by_cases q9 : z39.toInt < 0; exact Or.inl q9; exact Or.inr ⟨by rw [ha_z39]; exact (ErV.ec (OcV.get hoe (by first | with_reducible rfl | with_reducible assumption | omega))).1, by rw [ez39]; exact OpT.get hvo (by rw [← ez39]; omega)⟩)
      refine px_callv (pr := []) (px_runV (As := [.int z39]) (rest := []) S (c_mp_raise l D cs ma0 ys ns nf d (p0.toInt + 1) hi V vl vh h r g tf ta pf na ma wa ca ef ea xf xa cf z39  (show 0 ≤ (p0.toInt + 1) from by first | exact oz_c12c169b81 hsr0.2.2.1 | omega) (show hi ≤ (pf 13).toInt from by first | exact g1 | omega) (show (pf 13).toInt ≤ 2100 from by first | exact g2 | omega) (show (tf 6).toInt ≤ 2049 from by first | exact g3 | omega) (show (cf 38).toInt = nf from by first | exact g4 | omega) (show 0 ≤ nf from by first | exact g5 | omega) (show 0 ≤ (cf 59).toInt from by first | exact g6 | omega) (show (cf 59).toInt ≤ 4200 from by first | exact g7 | omega) htk (FnT.eq hft (by first | with_reducible rfl | with_reducible assumption | omega)) hfp han hts (hor_z39) _) hT (pr := []) (pcs := [wdP cs h r g tf ta pf na ma wa cf ca ef ea xf xa]) hw (oX_call (P := (fun A U H => (oP A g U H))) (pr := []) oG_P hw hA hP) (px_recv hT hw 0 0 rfl rfl rfl) m13_61 m13_58 m13_60 ms_13_12 m1_21 q_Mpg_raise ⟨show (2 * d + 9) + 1 ≤ (5 * (d + 1) + 14) from by first | with_reducible rfl | with_reducible assumption | omega, show 8 + (3 + 11) + (100 * d + 300) ≤ (220 * (d + 1) + 460) from by first | with_reducible rfl | with_reducible assumption | omega⟩ hl.1 rfl (Nat.le_of_ble_eq_true rfl) d_Mpg_measureOne_96 ⟨Nat.le_of_ble_eq_true rfl, Nat.le_of_ble_eq_true rfl⟩) hw hA (fun p42 H locs hp42 hw => ?_)
      obtain ⟨cf41, rfl, e44, e45, e46, e47, e48⟩ := hp42
      replace e44 : KpT cf cf41 := e44
      have hkp := hkp.tr e44
      have hkf_e44 : (cf41 38).toInt = (cf 38).toInt := congrArg Int32.toInt (hkp 38 (by decide))
      replace e45 : (cf 59).toInt ≤ (cf41 59).toInt := e45
      replace e46 : (cf41 59).toInt ≤ 4200 := e46
      replace e47 : (cf41 30).toInt = (cf 30).toInt := e47
      replace e48 : HgO na ma0 ma (tkl na ma0 ca) d z39 (cf41 59).toInt := e48
      replace hw : pw D A s.heap H locs [wdP cs h r g tf ta pf na ma wa cf41 ca ef ea xf xa] := hw
      refine lv_goto (tgt := 267) S.x S.b d_Mpg_measureOne_99 (by decide) ?_
      exact px_vret S hr hlk hAe hw (Nat.le_of_ble_eq_true rfl) (Nat.le_of_ble_eq_true rfl) (⟨cf41, rfl, (show KpT cf cf41 from hkp), (show (cf 59).toInt ≤ (cf41 59).toInt from by first | exact e45 | omega), (show (cf41 59).toInt ≤ 4200 from by first | exact e46 | omega), (show (cf41 30).toInt = (cf 30).toInt from by first | exact e47 | omega), (show HsB na ma0 ma (tkl na ma0 ca) (d + 1) p0 (cf41 59).toInt from Or.inr (Or.inr (Or.inl (⟨by first | with_reducible rfl | with_reducible assumption | omega, by rw [← ha_z39]; exact (HgO.mono e48 (by first | with_reducible rfl | with_reducible assumption | omega))⟩))))⟩) d_Mpg_measureOne_267
    · simp only [List.mem_cons, List.not_mem_nil, or_false] at c28
      refine lv_aload_n S.x S.b d_Mpg_measureOne_102 rfl (lv_at hl 0 rfl) ?_
      refine px_get S k_Mpg hT hw 0 0 17 (v := .ref (r 17)) rfl rfl rfl (by decide) m10_1 d_Mpg_measureOne_103 ?_
      obtain ⟨h22, hrv3⟩ := ScV.s23 hsc (by first | with_reducible rfl | with_reducible assumption | omega) (z := na 17 p0.toNatClampNeg) rfl; have hrw3 := LcS.k23 hls (by first | with_reducible rfl | with_reducible assumption | omega); have hwp3 := RvE.wp hrv3
      refine lv_iload_n S.x S.b d_Mpg_measureOne_106 rfl (lv_at hl 1 rfl) ?_
      refine px_iald S hT hw 0 13 (n := 2100) (f := (na 17)) rfl gp_17 (x := p0) (vp_in_iff.mpr (by first | exact oz_a7e05de1cd hsr0.2.2.1 hsr0.2.1 g1 g2 | (constructor <;> omega))) d_Mpg_measureOne_107 ?_
      refine lv_topi (fun z49 ez49 => ?_)
      have lz49 := Int32.le_toInt z49
      have uz49 := Int32.toInt_lt z49
      refine lv_istore_n (lv' := [(2, .int z49), (0, .ref h), (1, .int p0)]) S.x S.b d_Mpg_measureOne_108 rfl hl (by decide) rfl (fun ls hl => ?_)
      exact J109 ((hi - (p0.toInt + 1)).toNat + 1) cf (p0.toInt + 1) w z49 _ _ ls (show KpT cf cf from hkp) (show (cf 59).toInt ≤ (cf 59).toInt from by first | exact oz_1cb5f934a5 | omega) (show (cf 59).toInt ≤ 4200 from by first | exact g7 | omega) (show (cf 30).toInt = (cf 30).toInt from rfl) (show p0.toInt + 1 ≤ (p0.toInt + 1) from by first | exact oz_a1bc7e1f12 | omega) (show (p0.toInt + 1) ≤ hi from by first | exact oz_8cd8185cc8 hsr0.2.1 | omega) (show 0 ≤ w from by first | exact hsr0.2.2.2 | omega) (show (na 14 p0.toNatClampNeg).toInt = 23 from by first | with_reducible rfl | with_reducible assumption | omega) (show RvV ta (tf 6).toInt na ma0 d (p0.toInt + 1) hi w z49 from (by rw [ez49]; exact hrv3)) (show RwV0 na V 5 z49 from (by rw [ez49]; exact hrw3)) (show HvR na ma0 ma (tkl na ma0 ca) d (na 17 p0.toNatClampNeg) z49 (cf 59).toInt from ⟨0, ez49.symm⟩) (show hi - (p0.toInt + 1) < ((((hi - (p0.toInt + 1)).toNat + 1 : Nat) : Int) : Int) from by first | exact oz_natlt | omega) hw (lv_sub hl [1, 2, 0] rfl)
    · simp only [List.mem_cons, List.not_mem_nil, or_false] at c28
      refine lv_aload_n S.x S.b d_Mpg_measureOne_150 rfl (lv_at hl 0 rfl) ?_
      refine lv_aload_n S.x S.b d_Mpg_measureOne_151 rfl (lv_at hl 0 rfl) ?_
      obtain ⟨l1, h1, w1, l2, h2, w2, l3, w3, hbd, hea, hsb, hoc, hx24⟩ := ScV.s246 hsc (by first | with_reducible rfl | with_reducible assumption | omega); have h19m : (na 14 p0.toNatClampNeg).toInt ≠ 24 → (ma 19 p0.toNatClampNeg).toInt < 0 := (fun q9 => by rw [Ann.b19 han (by first | with_reducible rfl | with_reducible assumption | omega)]; exact hx24 q9); obtain ⟨hva, ⟨tb, htb, hvb⟩, hvc⟩ := LcS.k246 hls (by first | with_reducible rfl | with_reducible assumption | omega) h19m
      refine px_get S k_Mpg hT hw 0 0 17 (v := .ref (r 17)) rfl rfl rfl (by decide) m10_1 d_Mpg_measureOne_152 ?_
      refine lv_iload_n S.x S.b d_Mpg_measureOne_155 rfl (lv_at hl 1 rfl) ?_
      refine px_iald S hT hw 0 13 (n := 2100) (f := (na 17)) rfl gp_17 (x := p0) (vp_in_iff.mpr (by first | exact oz_a7e05de1cd hsr0.2.2.1 hsr0.2.1 g1 g2 | (constructor <;> omega))) d_Mpg_measureOne_156 ?_
      refine lv_topi (fun z50 ez50 => ?_)
      have lz50 := Int32.le_toInt z50
      have uz50 := Int32.toInt_lt z50
      have ha_z50 : z50 = na 17 p0.toNatClampNeg := ez50; have hn_z50 : z50.toInt = (na 17 p0.toNatClampNeg).toInt := (by rw [ha_z50]); have hec_z50 : EcV ta (tf 6).toInt na ma0 d l1 h1 z50 := (by rw [ha_z50]; exact (ErV.ec hea).1); have hrg_z50 := EcV.rng hec_z50; have hvn_z50 : V z50.toNatClampNeg 0 := (by rw [ez50]; exact hva); have hor_z50 : z50.toInt < 0 ∨ (EcV ta (tf 6).toInt na ma0 d l1 h1 z50 ∧ V z50.toNatClampNeg 0) := Or.inr ⟨hec_z50, hvn_z50⟩
      refine px_callv (pr := []) (px_runV (As := [.int z50]) (rest := []) S (c_mp_raise l D cs ma0 ys ns nf d l1 h1 V vl vh h r g tf ta pf na ma wa ca ef ea xf xa cf z50  (show 0 ≤ l1 from by first | exact oz_0a7da9c4d6 hbd.1 hsr0.2.2.1 | omega) (show h1 ≤ (pf 13).toInt from by first | exact oz_bbb5b20c1a g1 hbd.2.1 | omega) (show (pf 13).toInt ≤ 2100 from by first | exact g2 | omega) (show (tf 6).toInt ≤ 2049 from by first | exact g3 | omega) (show (cf 38).toInt = nf from by first | exact g4 | omega) (show 0 ≤ nf from by first | exact g5 | omega) (show 0 ≤ (cf 59).toInt from by first | exact g6 | omega) (show (cf 59).toInt ≤ 4200 from by first | exact g7 | omega) htk (FnT.eq hft (by first | with_reducible rfl | with_reducible assumption | omega)) hfp han hts (hor_z50) _) hT (pr := []) (pcs := [wdP cs h r g tf ta pf na ma wa cf ca ef ea xf xa]) hw (oX_call (P := (fun A U H => (oP A g U H))) (pr := []) oG_P hw hA hP) (px_recv hT hw 0 0 rfl rfl rfl) m13_61 m13_58 m13_60 ms_13_12 m1_21 q_Mpg_raise ⟨show (2 * d + 9) + 1 ≤ (5 * (d + 1) + 14) from by first | with_reducible rfl | with_reducible assumption | omega, show 8 + (3 + 11) + (100 * d + 300) ≤ (220 * (d + 1) + 460) from by first | with_reducible rfl | with_reducible assumption | omega⟩ hl.1 rfl (Nat.le_of_ble_eq_true rfl) d_Mpg_measureOne_157 ⟨Nat.le_of_ble_eq_true rfl, Nat.le_of_ble_eq_true rfl⟩) hw hA (fun p53 H locs hp53 hw => ?_)
      obtain ⟨cf52, rfl, e55, e56, e57, e58, e59⟩ := hp53
      replace e55 : KpT cf cf52 := e55
      have hkp := hkp.tr e55
      have hkf_e55 : (cf52 38).toInt = (cf 38).toInt := congrArg Int32.toInt (hkp 38 (by decide))
      replace e56 : (cf 59).toInt ≤ (cf52 59).toInt := e56
      replace e57 : (cf52 59).toInt ≤ 4200 := e57
      replace e58 : (cf52 30).toInt = (cf 30).toInt := e58
      replace e59 : HgO na ma0 ma (tkl na ma0 ca) d z50 (cf52 59).toInt := e59
      replace hw : pw D A s.heap H locs [wdP cs h r g tf ta pf na ma wa cf52 ca ef ea xf xa] := hw
      refine lv_aload_n S.x S.b d_Mpg_measureOne_160 rfl (lv_at hl 0 rfl) ?_
      refine lv_aload_n S.x S.b d_Mpg_measureOne_161 rfl (lv_at hl 0 rfl) ?_
      refine px_get S k_Mpg hT hw 0 0 18 (v := .ref (r 18)) rfl rfl rfl (by decide) m10_3 d_Mpg_measureOne_162 ?_
      refine lv_iload_n S.x S.b d_Mpg_measureOne_165 rfl (lv_at hl 1 rfl) ?_
      refine px_iald S hT hw 0 14 (n := 2100) (f := (ma 18)) rfl gp_18 (x := p0) (vp_in_iff.mpr (by first | exact oz_4d5c74e9a9 hsr0.2.2.1 hbd.1 g1 hbd.2.1 hrg_z50.1 g2 hrg_z50.2.1 | (constructor <;> omega))) d_Mpg_measureOne_166 ?_
      refine lv_topi (fun z60 ez60 => ?_)
      have lz60 := Int32.le_toInt z60
      have uz60 := Int32.toInt_lt z60
      have ha_z60 : z60 = ma0 18 p0.toNatClampNeg := ez60.trans (Ann.b18 han (by first | with_reducible rfl | with_reducible assumption | omega)); have hn_z60 : z60.toInt = (ma0 18 p0.toNatClampNeg).toInt := (by rw [ha_z60]); have hsc_z60 : ScV ta (tf 6).toInt na ma0 d l2 h2 w2 z60 := (by rw [ha_z60]; exact hsb); have hrg_z60 := ScV.rng hsc_z60; have hvt_z60 : V z60.toNatClampNeg tb := (by rw [ez60]; exact hvb)
      refine px_callv (pr := []) (px_runV (As := [.int z60]) (rest := []) S (hLQ ma0 ys ns nf l2 h2 w2 tb V vl vh h r g tf ta pf na ma wa ca ef ea xf xa cf52 z60 (show 0 ≤ l2 from by first | exact oz_0a7da9c4d6 hbd.2.2.1 hsr0.2.2.1 | omega) (show h2 ≤ (pf 13).toInt from by first | exact oz_bbb5b20c1a g1 hbd.2.2.2.1 | omega) (show (pf 13).toInt ≤ 2100 from by first | exact g2 | omega) (show (tf 6).toInt ≤ 2049 from by first | exact g3 | omega) (show (cf52 38).toInt = nf from by first | exact oz_1687f4cc65 g4 hkf_e55 | omega) (show 0 ≤ nf from by first | exact g5 | omega) (show 0 ≤ (cf52 59).toInt from by first | exact oz_16d7fa9f32 e56 g6 | omega) (show (cf52 59).toInt ≤ 4200 from by first | exact e57 | omega) (show 2 ≤ tb from by first | with_reducible rfl | with_reducible assumption | omega) (show tb ≤ 4 from by first | with_reducible rfl | with_reducible assumption | omega) htk (FnT.eq hft (by first | with_reducible rfl | with_reducible assumption | omega)) hfp han hts hsc_z60 hvt_z60 _) hT (pr := []) (pcs := [wdP cs h r g tf ta pf na ma wa cf52 ca ef ea xf xa]) hw (oX_call (P := (fun A U H => (oP A g U H))) (pr := []) oG_P hw hA hP) (px_recv hT hw 0 0 rfl rfl rfl) m13_57 m13_54 m13_56 ms_13_11 m1_21 q_Mpg_measureOne ⟨show (5 * d + 14) + 1 ≤ (5 * (d + 1) + 14) from by first | with_reducible rfl | with_reducible assumption | omega, show 8 + (3 + 11) + (220 * d + 460) ≤ (220 * (d + 1) + 460) from by first | with_reducible rfl | with_reducible assumption | omega⟩ hl.1 rfl (Nat.le_of_ble_eq_true rfl) d_Mpg_measureOne_167 ⟨Nat.le_of_ble_eq_true rfl, Nat.le_of_ble_eq_true rfl⟩) hw hA (fun p63 H locs hp63 hw => ?_)
      obtain ⟨cf62, rfl, e65, e66, e67, e68, e69⟩ := hp63
      replace e65 : KpT cf52 cf62 := e65
      have hkp := hkp.tr e65
      have hkf_e65 : (cf62 38).toInt = (cf 38).toInt := congrArg Int32.toInt (hkp 38 (by decide))
      replace e66 : (cf52 59).toInt ≤ (cf62 59).toInt := e66
      replace e67 : (cf62 59).toInt ≤ 4200 := e67
      replace e68 : (cf62 30).toInt = (cf52 30).toInt := e68
      replace e69 : HsB na ma0 ma (tkl na ma0 ca) d z60 (cf62 59).toInt := e69
      replace hw : pw D A s.heap H locs [wdP cs h r g tf ta pf na ma wa cf62 ca ef ea xf xa] := hw
      refine lv_aload_n S.x S.b d_Mpg_measureOne_170 rfl (lv_at hl 0 rfl) ?_
      refine px_get S k_Mpg hT hw 0 0 19 (v := .ref (r 19)) rfl rfl rfl (by decide) m10_5 d_Mpg_measureOne_171 ?_
      refine lv_iload_n S.x S.b d_Mpg_measureOne_174 rfl (lv_at hl 1 rfl) ?_
      refine px_iald S hT hw 0 15 (n := 2100) (f := (ma 19)) rfl gp_19 (x := p0) (vp_in_iff.mpr (by first | exact oz_4d5c74e9a9 hsr0.2.2.1 hbd.1 g1 hbd.2.1 hrg_z50.1 g2 hrg_z50.2.1 | (constructor <;> omega))) d_Mpg_measureOne_175 ?_
      refine lv_topi (fun z70 ez70 => ?_)
      have lz70 := Int32.le_toInt z70
      have uz70 := Int32.toInt_lt z70
      have ha_z70 : z70 = ma0 19 p0.toNatClampNeg := ez70.trans (Ann.b19 han (by first | with_reducible rfl | with_reducible assumption | omega)); have hn_z70 : z70.toInt = (ma0 19 p0.toNatClampNeg).toInt := (by rw [ha_z70])
      refine lv_if_lt (tgt := 267) S.x S.b d_Mpg_measureOne_176 (by decide) (fun c71 => ?_) (fun c71 => ?_)
      · have nc71 : z70.toInt < (0 : Int) := (i_lt (x := z70) (y := 0)).mp c71
        exact px_vret S hr hlk hAe hw (Nat.le_of_ble_eq_true rfl) (Nat.le_of_ble_eq_true rfl) (⟨cf62, rfl, (show KpT cf cf62 from hkp), (show (cf 59).toInt ≤ (cf62 59).toInt from by first | exact oz_be764f19f0 e56 e66 | omega), (show (cf62 59).toInt ≤ 4200 from by first | exact e67 | omega), (show (cf62 30).toInt = (cf 30).toInt from by first | exact oz_1687f4cc65 e58 e68 | omega), (show HsB na ma0 ma (tkl na ma0 ca) (d + 1) p0 (cf62 59).toInt from Or.inr (Or.inr (Or.inr (Or.inr (Or.inl (⟨by first | with_reducible rfl | with_reducible assumption | omega, by rw [← ha_z50]; exact (HgO.mono e59 (by first | with_reducible rfl | with_reducible assumption | omega)), by rw [← ha_z60]; exact (HsB.mono e69 (by first | with_reducible rfl | with_reducible assumption | omega)), Or.inl (by first | with_reducible rfl | with_reducible assumption | omega)⟩))))))⟩) d_Mpg_measureOne_267
      · have nc71 : ¬ z70.toInt < (0 : Int) := mt (i_lt (x := z70) (y := 0)).mpr c71
        refine lv_aload_n S.x S.b d_Mpg_measureOne_179 rfl (lv_at hl 0 rfl) ?_
        refine lv_aload_n S.x S.b d_Mpg_measureOne_180 rfl (lv_at hl 0 rfl) ?_
        refine px_get S k_Mpg hT hw 0 0 19 (v := .ref (r 19)) rfl rfl rfl (by decide) m10_5 d_Mpg_measureOne_181 ?_
        refine lv_iload_n S.x S.b d_Mpg_measureOne_184 rfl (lv_at hl 1 rfl) ?_
        refine px_iald S hT hw 0 15 (n := 2100) (f := (ma 19)) rfl gp_19 (x := p0) (vp_in_iff.mpr (by first | exact oz_4d5c74e9a9 hsr0.2.2.1 hbd.1 g1 hbd.2.1 hrg_z50.1 g2 hrg_z50.2.1 | (constructor <;> omega))) d_Mpg_measureOne_185 ?_
        refine lv_topi (fun z72 ez72 => ?_)
        have lz72 := Int32.le_toInt z72
        have uz72 := Int32.toInt_lt z72
        have ha_z72 : z72 = ma0 19 p0.toNatClampNeg := ez72.trans (Ann.b19 han (by first | with_reducible rfl | with_reducible assumption | omega)); have hn_z72 : z72.toInt = (ma0 19 p0.toNatClampNeg).toInt := (by rw [ha_z72]); have hsc_z72 : ScV ta (tf 6).toInt na ma0 d l3 hi w3 z72 := (by rw [ha_z72]; exact (hoc.get (by first | with_reducible rfl | with_reducible assumption | omega))); have hrg_z72 := ScV.rng hsc_z72; have hvt_z72 : V z72.toNatClampNeg t := (by rw [ez72]; exact (OpT.get hvc (by rw [Ann.b19 han (by first | with_reducible rfl | with_reducible assumption | omega)]; omega)))
        refine px_callv (pr := []) (px_runV (As := [.int z72]) (rest := []) S (hLQ ma0 ys ns nf l3 hi w3 t V vl vh h r g tf ta pf na ma wa ca ef ea xf xa cf62 z72 (show 0 ≤ l3 from by first | exact oz_0a7da9c4d6 hbd.2.2.2.2.1 hsr0.2.2.1 | omega) (show hi ≤ (pf 13).toInt from by first | exact g1 | omega) (show (pf 13).toInt ≤ 2100 from by first | exact g2 | omega) (show (tf 6).toInt ≤ 2049 from by first | exact g3 | omega) (show (cf62 38).toInt = nf from by first | exact oz_1687f4cc65 g4 hkf_e65 | omega) (show 0 ≤ nf from by first | exact g5 | omega) (show 0 ≤ (cf62 59).toInt from by first | exact oz_fe2fd2b0f6 e66 e56 g6 | omega) (show (cf62 59).toInt ≤ 4200 from by first | exact e67 | omega) (show 2 ≤ t from by first | exact g8 | omega) (show t ≤ 4 from by first | exact g9 | omega) htk (FnT.eq hft (by first | with_reducible rfl | with_reducible assumption | omega)) hfp han hts hsc_z72 hvt_z72 _) hT (pr := []) (pcs := [wdP cs h r g tf ta pf na ma wa cf62 ca ef ea xf xa]) hw (oX_call (P := (fun A U H => (oP A g U H))) (pr := []) oG_P hw hA hP) (px_recv hT hw 0 0 rfl rfl rfl) m13_57 m13_54 m13_56 ms_13_11 m1_21 q_Mpg_measureOne ⟨show (5 * d + 14) + 1 ≤ (5 * (d + 1) + 14) from by first | with_reducible rfl | with_reducible assumption | omega, show 8 + (3 + 11) + (220 * d + 460) ≤ (220 * (d + 1) + 460) from by first | with_reducible rfl | with_reducible assumption | omega⟩ hl.1 rfl (Nat.le_of_ble_eq_true rfl) d_Mpg_measureOne_186 ⟨Nat.le_of_ble_eq_true rfl, Nat.le_of_ble_eq_true rfl⟩) hw hA (fun p75 H locs hp75 hw => ?_)
        obtain ⟨cf74, rfl, e77, e78, e79, e80, e81⟩ := hp75
        replace e77 : KpT cf62 cf74 := e77
        have hkp := hkp.tr e77
        have hkf_e77 : (cf74 38).toInt = (cf 38).toInt := congrArg Int32.toInt (hkp 38 (by decide))
        replace e78 : (cf62 59).toInt ≤ (cf74 59).toInt := e78
        replace e79 : (cf74 59).toInt ≤ 4200 := e79
        replace e80 : (cf74 30).toInt = (cf62 30).toInt := e80
        replace e81 : HsB na ma0 ma (tkl na ma0 ca) d z72 (cf74 59).toInt := e81
        replace hw : pw D A s.heap H locs [wdP cs h r g tf ta pf na ma wa cf74 ca ef ea xf xa] := hw
        refine lv_goto (tgt := 267) S.x S.b d_Mpg_measureOne_189 (by decide) ?_
        exact px_vret S hr hlk hAe hw (Nat.le_of_ble_eq_true rfl) (Nat.le_of_ble_eq_true rfl) (⟨cf74, rfl, (show KpT cf cf74 from hkp), (show (cf 59).toInt ≤ (cf74 59).toInt from by first | exact oz_a2a3fc2367 e56 e78 e66 | omega), (show (cf74 59).toInt ≤ 4200 from by first | exact e79 | omega), (show (cf74 30).toInt = (cf 30).toInt from by first | exact oz_e13fc83238 e58 e80 e68 | omega), (show HsB na ma0 ma (tkl na ma0 ca) (d + 1) p0 (cf74 59).toInt from Or.inr (Or.inr (Or.inr (Or.inr (Or.inl (⟨by first | with_reducible rfl | with_reducible assumption | omega, by rw [← ha_z50]; exact (HgO.mono e59 (by first | with_reducible rfl | with_reducible assumption | omega)), by rw [← ha_z60]; exact (HsB.mono e69 (by first | with_reducible rfl | with_reducible assumption | omega)), Or.inr (by rw [← ha_z72]; exact (HsB.mono e81 (by first | with_reducible rfl | with_reducible assumption | omega)))⟩))))))⟩) d_Mpg_measureOne_267
    · simp only [List.mem_cons, List.not_mem_nil, or_false] at c28
      refine lv_aload_n S.x S.b d_Mpg_measureOne_192 rfl (lv_at hl 0 rfl) ?_
      refine px_get S k_Mpg hT hw 0 0 17 (v := .ref (r 17)) rfl rfl rfl (by decide) m10_1 d_Mpg_measureOne_193 ?_
      obtain ⟨m1, m2, m3, w1, w2, w3, w5, hm1, hm2, hm3, hm4, hoa, hob, hoc, hse, hws, hw1, hw2, hw3, hw5⟩ := ScV.s27 hsc (by first | with_reducible rfl | with_reducible assumption | omega) (z := na 17 p0.toNatClampNeg) (y := ma0 18 p0.toNatClampNeg) (x := ma0 19 p0.toNatClampNeg) (u := ma0 20 p0.toNatClampNeg) rfl rfl rfl rfl; have hru := ScV.rng hse; obtain ⟨hva, hvb, hvc, hvd⟩ := LcS.k27 hls (by first | with_reducible rfl | with_reducible assumption | omega)
      refine lv_iload_n S.x S.b d_Mpg_measureOne_196 rfl (lv_at hl 1 rfl) ?_
      refine px_iald S hT hw 0 13 (n := 2100) (f := (na 17)) rfl gp_17 (x := p0) (vp_in_iff.mpr (by first | exact oz_2334575e67 hsr0.2.2.1 hm1 g1 hm2 hru.2.1 g2 hm3 hru.1 | (constructor <;> omega))) d_Mpg_measureOne_197 ?_
      refine lv_topi (fun z82 ez82 => ?_)
      have lz82 := Int32.le_toInt z82
      have uz82 := Int32.toInt_lt z82
      have ha_z82 : z82 = na 17 p0.toNatClampNeg := ez82; have hn_z82 : z82.toInt = (na 17 p0.toNatClampNeg).toInt := (by rw [ha_z82])
      refine lv_if_lt (tgt := 211) S.x S.b d_Mpg_measureOne_198 (by decide) (fun c83 => ?_) (fun c83 => ?_)
      · have nc83 : z82.toInt < (0 : Int) := (i_lt (x := z82) (y := 0)).mp c83
        refine lv_aload_n S.x S.b d_Mpg_measureOne_211 rfl (lv_at hl 0 rfl) ?_
        refine lv_aload_n S.x S.b d_Mpg_measureOne_212 rfl (lv_at hl 0 rfl) ?_
        refine px_get S k_Mpg hT hw 0 0 18 (v := .ref (r 18)) rfl rfl rfl (by decide) m10_3 d_Mpg_measureOne_213 ?_
        refine lv_iload_n S.x S.b d_Mpg_measureOne_216 rfl (lv_at hl 1 rfl) ?_
        refine px_iald S hT hw 0 14 (n := 2100) (f := (ma 18)) rfl gp_18 (x := p0) (vp_in_iff.mpr (by first | exact oz_2334575e67 hsr0.2.2.1 hm1 g1 hm2 hru.2.1 g2 hm3 hru.1 | (constructor <;> omega))) d_Mpg_measureOne_217 ?_
        refine lv_topi (fun z84 ez84 => ?_)
        have lz84 := Int32.le_toInt z84
        have uz84 := Int32.toInt_lt z84
        have ha_z84 : z84 = ma0 18 p0.toNatClampNeg := ez84.trans (Ann.b18 han (by first | with_reducible rfl | with_reducible assumption | omega)); have hn_z84 : z84.toInt = (ma0 18 p0.toNatClampNeg).toInt := (by rw [ha_z84]); have hor_z84 : z84.toInt < 0 ∨ (EcV ta (tf 6).toInt na ma0 d m1 m2 z84 ∧ V z84.toNatClampNeg 0) := (by by_cases q9 : z84.toInt < 0; exact Or.inl q9; exact Or.inr ⟨by rw [ha_z84]; exact (ErV.ec (OcV.get hob (by first | with_reducible rfl | with_reducible assumption | omega))).1, by rw [ez84]; exact OpT.get hvb (by rw [← ez84]; omega)⟩)
        refine px_callv (pr := []) (px_runV (As := [.int z84]) (rest := []) S (c_mp_raise l D cs ma0 ys ns nf d m1 m2 V vl vh h r g tf ta pf na ma wa ca ef ea xf xa cf z84  (show 0 ≤ m1 from by first | exact oz_0a7da9c4d6 hm1 hsr0.2.2.1 | omega) (show m2 ≤ (pf 13).toInt from by first | exact oz_cabfece9a2 g1 hm3 hru.1 hru.2.1 | omega) (show (pf 13).toInt ≤ 2100 from by first | exact g2 | omega) (show (tf 6).toInt ≤ 2049 from by first | exact g3 | omega) (show (cf 38).toInt = nf from by first | exact g4 | omega) (show 0 ≤ nf from by first | exact g5 | omega) (show 0 ≤ (cf 59).toInt from by first | exact g6 | omega) (show (cf 59).toInt ≤ 4200 from by first | exact g7 | omega) htk (FnT.eq hft (by first | with_reducible rfl | with_reducible assumption | omega)) hfp han hts (hor_z84) _) hT (pr := []) (pcs := [wdP cs h r g tf ta pf na ma wa cf ca ef ea xf xa]) hw (oX_call (P := (fun A U H => (oP A g U H))) (pr := []) oG_P hw hA hP) (px_recv hT hw 0 0 rfl rfl rfl) m13_61 m13_58 m13_60 ms_13_12 m1_21 q_Mpg_raise ⟨show (2 * d + 9) + 1 ≤ (5 * (d + 1) + 14) from by first | with_reducible rfl | with_reducible assumption | omega, show 8 + (3 + 11) + (100 * d + 300) ≤ (220 * (d + 1) + 460) from by first | with_reducible rfl | with_reducible assumption | omega⟩ hl.1 rfl (Nat.le_of_ble_eq_true rfl) d_Mpg_measureOne_218 ⟨Nat.le_of_ble_eq_true rfl, Nat.le_of_ble_eq_true rfl⟩) hw hA (fun p87 H locs hp87 hw => ?_)
        obtain ⟨cf86, rfl, e89, e90, e91, e92, e93⟩ := hp87
        replace e89 : KpT cf cf86 := e89
        have hkp := hkp.tr e89
        have hkf_e89 : (cf86 38).toInt = (cf 38).toInt := congrArg Int32.toInt (hkp 38 (by decide))
        replace e90 : (cf 59).toInt ≤ (cf86 59).toInt := e90
        replace e91 : (cf86 59).toInt ≤ 4200 := e91
        replace e92 : (cf86 30).toInt = (cf 30).toInt := e92
        replace e93 : HgO na ma0 ma (tkl na ma0 ca) d z84 (cf86 59).toInt := e93
        replace hw : pw D A s.heap H locs [wdP cs h r g tf ta pf na ma wa cf86 ca ef ea xf xa] := hw
        refine lv_aload_n S.x S.b d_Mpg_measureOne_221 rfl (lv_at hl 0 rfl) ?_
        refine lv_aload_n S.x S.b d_Mpg_measureOne_222 rfl (lv_at hl 0 rfl) ?_
        refine px_get S k_Mpg hT hw 0 0 19 (v := .ref (r 19)) rfl rfl rfl (by decide) m10_5 d_Mpg_measureOne_223 ?_
        refine lv_iload_n S.x S.b d_Mpg_measureOne_226 rfl (lv_at hl 1 rfl) ?_
        refine px_iald S hT hw 0 15 (n := 2100) (f := (ma 19)) rfl gp_19 (x := p0) (vp_in_iff.mpr (by first | exact oz_2334575e67 hsr0.2.2.1 hm1 g1 hm2 hru.2.1 g2 hm3 hru.1 | (constructor <;> omega))) d_Mpg_measureOne_227 ?_
        refine lv_topi (fun z94 ez94 => ?_)
        have lz94 := Int32.le_toInt z94
        have uz94 := Int32.toInt_lt z94
        have ha_z94 : z94 = ma0 19 p0.toNatClampNeg := ez94.trans (Ann.b19 han (by first | with_reducible rfl | with_reducible assumption | omega)); have hn_z94 : z94.toInt = (ma0 19 p0.toNatClampNeg).toInt := (by rw [ha_z94]); have hor_z94 : z94.toInt < 0 ∨ (EcV ta (tf 6).toInt na ma0 d m2 m3 z94 ∧ V z94.toNatClampNeg 0) := (by by_cases q9 : z94.toInt < 0; exact Or.inl q9; exact Or.inr ⟨by rw [ha_z94]; exact (ErV.ec (OcV.get hoc (by first | with_reducible rfl | with_reducible assumption | omega))).1, by rw [ez94]; exact OpT.get hvc (by rw [← ez94]; omega)⟩)
        refine px_callv (pr := []) (px_runV (As := [.int z94]) (rest := []) S (c_mp_raise l D cs ma0 ys ns nf d m2 m3 V vl vh h r g tf ta pf na ma wa ca ef ea xf xa cf86 z94  (show 0 ≤ m2 from by first | exact oz_8df2b9da5a hm2 hm1 hsr0.2.2.1 | omega) (show m3 ≤ (pf 13).toInt from by first | exact oz_8d1dd37214 g1 hru.1 hru.2.1 | omega) (show (pf 13).toInt ≤ 2100 from by first | exact g2 | omega) (show (tf 6).toInt ≤ 2049 from by first | exact g3 | omega) (show (cf86 38).toInt = nf from by first | exact oz_1687f4cc65 g4 hkf_e89 | omega) (show 0 ≤ nf from by first | exact g5 | omega) (show 0 ≤ (cf86 59).toInt from by first | exact oz_16d7fa9f32 e90 g6 | omega) (show (cf86 59).toInt ≤ 4200 from by first | exact e91 | omega) htk (FnT.eq hft (by first | with_reducible rfl | with_reducible assumption | omega)) hfp han hts (hor_z94) _) hT (pr := []) (pcs := [wdP cs h r g tf ta pf na ma wa cf86 ca ef ea xf xa]) hw (oX_call (P := (fun A U H => (oP A g U H))) (pr := []) oG_P hw hA hP) (px_recv hT hw 0 0 rfl rfl rfl) m13_61 m13_58 m13_60 ms_13_12 m1_21 q_Mpg_raise ⟨show (2 * d + 9) + 1 ≤ (5 * (d + 1) + 14) from by first | with_reducible rfl | with_reducible assumption | omega, show 8 + (3 + 11) + (100 * d + 300) ≤ (220 * (d + 1) + 460) from by first | with_reducible rfl | with_reducible assumption | omega⟩ hl.1 rfl (Nat.le_of_ble_eq_true rfl) d_Mpg_measureOne_228 ⟨Nat.le_of_ble_eq_true rfl, Nat.le_of_ble_eq_true rfl⟩) hw hA (fun p97 H locs hp97 hw => ?_)
        obtain ⟨cf96, rfl, e99, e100, e101, e102, e103⟩ := hp97
        replace e99 : KpT cf86 cf96 := e99
        have hkp := hkp.tr e99
        have hkf_e99 : (cf96 38).toInt = (cf 38).toInt := congrArg Int32.toInt (hkp 38 (by decide))
        replace e100 : (cf86 59).toInt ≤ (cf96 59).toInt := e100
        replace e101 : (cf96 59).toInt ≤ 4200 := e101
        replace e102 : (cf96 30).toInt = (cf86 30).toInt := e102
        replace e103 : HgO na ma0 ma (tkl na ma0 ca) d z94 (cf96 59).toInt := e103
        replace hw : pw D A s.heap H locs [wdP cs h r g tf ta pf na ma wa cf96 ca ef ea xf xa] := hw
        refine lv_aload_n S.x S.b d_Mpg_measureOne_231 rfl (lv_at hl 0 rfl) ?_
        refine lv_aload_n S.x S.b d_Mpg_measureOne_232 rfl (lv_at hl 0 rfl) ?_
        refine px_get S k_Mpg hT hw 0 0 20 (v := .ref (r 20)) rfl rfl rfl (by decide) m10_6 d_Mpg_measureOne_233 ?_
        refine lv_iload_n S.x S.b d_Mpg_measureOne_236 rfl (lv_at hl 1 rfl) ?_
        refine px_iald S hT hw 0 16 (n := 2100) (f := (ma 20)) rfl gp_20 (x := p0) (vp_in_iff.mpr (by first | exact oz_2334575e67 hsr0.2.2.1 hm1 g1 hm2 hru.2.1 g2 hm3 hru.1 | (constructor <;> omega))) d_Mpg_measureOne_237 ?_
        refine lv_topi (fun z104 ez104 => ?_)
        have lz104 := Int32.le_toInt z104
        have uz104 := Int32.toInt_lt z104
        have ha_z104 : z104 = ma0 20 p0.toNatClampNeg := ez104.trans (Ann.b20 han (by first | with_reducible rfl | with_reducible assumption | omega) (by first | with_reducible rfl | with_reducible assumption | omega)); have hn_z104 : z104.toInt = (ma0 20 p0.toNatClampNeg).toInt := (by rw [ha_z104]); have hsc_z104 : ScV ta (tf 6).toInt na ma0 d m3 hi w5 z104 := (by rw [ha_z104]; exact hse); have hrg_z104 := ScV.rng hsc_z104; have hvt_z104 : V z104.toNatClampNeg 4 := (by rw [ez104]; exact hvd)
        refine px_callv (pr := []) (px_runV (As := [.int z104]) (rest := []) S (hLQ ma0 ys ns nf m3 hi w5 4 V vl vh h r g tf ta pf na ma wa ca ef ea xf xa cf96 z104 (show 0 ≤ m3 from by first | exact oz_3535899054 hm3 hm2 hsr0.2.2.1 hm1 | omega) (show hi ≤ (pf 13).toInt from by first | exact g1 | omega) (show (pf 13).toInt ≤ 2100 from by first | exact g2 | omega) (show (tf 6).toInt ≤ 2049 from by first | exact g3 | omega) (show (cf96 38).toInt = nf from by first | exact oz_1687f4cc65 g4 hkf_e99 | omega) (show 0 ≤ nf from by first | exact g5 | omega) (show 0 ≤ (cf96 59).toInt from by first | exact oz_fe2fd2b0f6 e100 e90 g6 | omega) (show (cf96 59).toInt ≤ 4200 from by first | exact e101 | omega) (show 2 ≤ 4 from by first | decide | omega) (show 4 ≤ 4 from by first | decide | omega) htk (FnT.eq hft (by first | with_reducible rfl | with_reducible assumption | omega)) hfp han hts hsc_z104 hvt_z104 _) hT (pr := []) (pcs := [wdP cs h r g tf ta pf na ma wa cf96 ca ef ea xf xa]) hw (oX_call (P := (fun A U H => (oP A g U H))) (pr := []) oG_P hw hA hP) (px_recv hT hw 0 0 rfl rfl rfl) m13_57 m13_54 m13_56 ms_13_11 m1_21 q_Mpg_measureOne ⟨show (5 * d + 14) + 1 ≤ (5 * (d + 1) + 14) from by first | with_reducible rfl | with_reducible assumption | omega, show 8 + (3 + 11) + (220 * d + 460) ≤ (220 * (d + 1) + 460) from by first | with_reducible rfl | with_reducible assumption | omega⟩ hl.1 rfl (Nat.le_of_ble_eq_true rfl) d_Mpg_measureOne_238 ⟨Nat.le_of_ble_eq_true rfl, Nat.le_of_ble_eq_true rfl⟩) hw hA (fun p107 H locs hp107 hw => ?_)
        obtain ⟨cf106, rfl, e109, e110, e111, e112, e113⟩ := hp107
        replace e109 : KpT cf96 cf106 := e109
        have hkp := hkp.tr e109
        have hkf_e109 : (cf106 38).toInt = (cf 38).toInt := congrArg Int32.toInt (hkp 38 (by decide))
        replace e110 : (cf96 59).toInt ≤ (cf106 59).toInt := e110
        replace e111 : (cf106 59).toInt ≤ 4200 := e111
        replace e112 : (cf106 30).toInt = (cf96 30).toInt := e112
        replace e113 : HsB na ma0 ma (tkl na ma0 ca) d z104 (cf106 59).toInt := e113
        replace hw : pw D A s.heap H locs [wdP cs h r g tf ta pf na ma wa cf106 ca ef ea xf xa] := hw
        refine lv_goto (tgt := 267) S.x S.b d_Mpg_measureOne_241 (by decide) ?_
        exact px_vret S hr hlk hAe hw (Nat.le_of_ble_eq_true rfl) (Nat.le_of_ble_eq_true rfl) (⟨cf106, rfl, (show KpT cf cf106 from hkp), (show (cf 59).toInt ≤ (cf106 59).toInt from by first | exact oz_a2a3fc2367 e90 e110 e100 | omega), (show (cf106 59).toInt ≤ 4200 from by first | exact e111 | omega), (show (cf106 30).toInt = (cf 30).toInt from by first | exact oz_e13fc83238 e92 e112 e102 | omega), (show HsB na ma0 ma (tkl na ma0 ca) (d + 1) p0 (cf106 59).toInt from Or.inr (Or.inr (Or.inr (Or.inr (Or.inr (Or.inl (⟨by first | with_reducible rfl | with_reducible assumption | omega, Or.inl (by first | with_reducible rfl | with_reducible assumption | omega), by rw [← ha_z84]; exact (HgO.mono e93 (by first | with_reducible rfl | with_reducible assumption | omega)), by rw [← ha_z94]; exact (HgO.mono e103 (by first | with_reducible rfl | with_reducible assumption | omega)), by rw [← ha_z104]; exact (HsB.mono e113 (by first | with_reducible rfl | with_reducible assumption | omega))⟩)))))))⟩) d_Mpg_measureOne_267
      · have nc83 : ¬ z82.toInt < (0 : Int) := mt (i_lt (x := z82) (y := 0)).mpr c83
        refine lv_aload_n S.x S.b d_Mpg_measureOne_201 rfl (lv_at hl 0 rfl) ?_
        refine lv_aload_n S.x S.b d_Mpg_measureOne_202 rfl (lv_at hl 0 rfl) ?_
        refine px_get S k_Mpg hT hw 0 0 17 (v := .ref (r 17)) rfl rfl rfl (by decide) m10_1 d_Mpg_measureOne_203 ?_
        refine lv_iload_n S.x S.b d_Mpg_measureOne_206 rfl (lv_at hl 1 rfl) ?_
        refine px_iald S hT hw 0 13 (n := 2100) (f := (na 17)) rfl gp_17 (x := p0) (vp_in_iff.mpr (by first | exact oz_2334575e67 hsr0.2.2.1 hm1 g1 hm2 hru.2.1 g2 hm3 hru.1 | (constructor <;> omega))) d_Mpg_measureOne_207 ?_
        refine lv_topi (fun z114 ez114 => ?_)
        have lz114 := Int32.le_toInt z114
        have uz114 := Int32.toInt_lt z114
        have ha_z114 : z114 = na 17 p0.toNatClampNeg := ez114; have hn_z114 : z114.toInt = (na 17 p0.toNatClampNeg).toInt := (by rw [ha_z114]); have hsc_z114 : ScV ta (tf 6).toInt na ma0 d (p0.toInt + 1) m1 w1 z114 := (by rw [ha_z114]; exact (hoa.get (by first | with_reducible rfl | with_reducible assumption | omega))); have hrg_z114 := ScV.rng hsc_z114; have hvt_z114 : V z114.toNatClampNeg t := (by rw [ez114]; exact (OpT.get hva (by first | with_reducible rfl | with_reducible assumption | omega)))
        refine px_callv (pr := []) (px_runV (As := [.int z114]) (rest := []) S (hLQ ma0 ys ns nf (p0.toInt + 1) m1 w1 t V vl vh h r g tf ta pf na ma wa ca ef ea xf xa cf z114 (show 0 ≤ (p0.toInt + 1) from by first | exact oz_c12c169b81 hsr0.2.2.1 | omega) (show m1 ≤ (pf 13).toInt from by first | exact oz_9219fb40fa g1 hm2 hm3 hm4 | omega) (show (pf 13).toInt ≤ 2100 from by first | exact g2 | omega) (show (tf 6).toInt ≤ 2049 from by first | exact g3 | omega) (show (cf 38).toInt = nf from by first | exact g4 | omega) (show 0 ≤ nf from by first | exact g5 | omega) (show 0 ≤ (cf 59).toInt from by first | exact g6 | omega) (show (cf 59).toInt ≤ 4200 from by first | exact g7 | omega) (show 2 ≤ t from by first | exact g8 | omega) (show t ≤ 4 from by first | exact g9 | omega) htk (FnT.eq hft (by first | with_reducible rfl | with_reducible assumption | omega)) hfp han hts hsc_z114 hvt_z114 _) hT (pr := []) (pcs := [wdP cs h r g tf ta pf na ma wa cf ca ef ea xf xa]) hw (oX_call (P := (fun A U H => (oP A g U H))) (pr := []) oG_P hw hA hP) (px_recv hT hw 0 0 rfl rfl rfl) m13_57 m13_54 m13_56 ms_13_11 m1_21 q_Mpg_measureOne ⟨show (5 * d + 14) + 1 ≤ (5 * (d + 1) + 14) from by first | with_reducible rfl | with_reducible assumption | omega, show 8 + (3 + 11) + (220 * d + 460) ≤ (220 * (d + 1) + 460) from by first | with_reducible rfl | with_reducible assumption | omega⟩ hl.1 rfl (Nat.le_of_ble_eq_true rfl) d_Mpg_measureOne_208 ⟨Nat.le_of_ble_eq_true rfl, Nat.le_of_ble_eq_true rfl⟩) hw hA (fun p117 H locs hp117 hw => ?_)
        obtain ⟨cf116, rfl, e119, e120, e121, e122, e123⟩ := hp117
        replace e119 : KpT cf cf116 := e119
        have hkp := hkp.tr e119
        have hkf_e119 : (cf116 38).toInt = (cf 38).toInt := congrArg Int32.toInt (hkp 38 (by decide))
        replace e120 : (cf 59).toInt ≤ (cf116 59).toInt := e120
        replace e121 : (cf116 59).toInt ≤ 4200 := e121
        replace e122 : (cf116 30).toInt = (cf 30).toInt := e122
        replace e123 : HsB na ma0 ma (tkl na ma0 ca) d z114 (cf116 59).toInt := e123
        replace hw : pw D A s.heap H locs [wdP cs h r g tf ta pf na ma wa cf116 ca ef ea xf xa] := hw
        refine lv_aload_n S.x S.b d_Mpg_measureOne_211 rfl (lv_at hl 0 rfl) ?_
        refine lv_aload_n S.x S.b d_Mpg_measureOne_212 rfl (lv_at hl 0 rfl) ?_
        refine px_get S k_Mpg hT hw 0 0 18 (v := .ref (r 18)) rfl rfl rfl (by decide) m10_3 d_Mpg_measureOne_213 ?_
        refine lv_iload_n S.x S.b d_Mpg_measureOne_216 rfl (lv_at hl 1 rfl) ?_
        refine px_iald S hT hw 0 14 (n := 2100) (f := (ma 18)) rfl gp_18 (x := p0) (vp_in_iff.mpr (by first | exact oz_376db002e6 hsr0.2.2.1 hrg_z114.1 g1 hm2 hru.2.1 hrg_z114.2.1 g2 hm3 hru.1 | (constructor <;> omega))) d_Mpg_measureOne_217 ?_
        refine lv_topi (fun z124 ez124 => ?_)
        have lz124 := Int32.le_toInt z124
        have uz124 := Int32.toInt_lt z124
        have ha_z124 : z124 = ma0 18 p0.toNatClampNeg := ez124.trans (Ann.b18 han (by first | with_reducible rfl | with_reducible assumption | omega)); have hn_z124 : z124.toInt = (ma0 18 p0.toNatClampNeg).toInt := (by rw [ha_z124]); have hor_z124 : z124.toInt < 0 ∨ (EcV ta (tf 6).toInt na ma0 d m1 m2 z124 ∧ V z124.toNatClampNeg 0) := (by by_cases q9 : z124.toInt < 0; exact Or.inl q9; exact Or.inr ⟨by rw [ha_z124]; exact (ErV.ec (OcV.get hob (by first | with_reducible rfl | with_reducible assumption | omega))).1, by rw [ez124]; exact OpT.get hvb (by rw [← ez124]; omega)⟩)
        refine px_callv (pr := []) (px_runV (As := [.int z124]) (rest := []) S (c_mp_raise l D cs ma0 ys ns nf d m1 m2 V vl vh h r g tf ta pf na ma wa ca ef ea xf xa cf116 z124  (show 0 ≤ m1 from by first | exact oz_5b675c0aaa hrg_z114.2.1 hsr0.2.2.1 hrg_z114.1 | omega) (show m2 ≤ (pf 13).toInt from by first | exact oz_cabfece9a2 g1 hm3 hru.1 hru.2.1 | omega) (show (pf 13).toInt ≤ 2100 from by first | exact g2 | omega) (show (tf 6).toInt ≤ 2049 from by first | exact g3 | omega) (show (cf116 38).toInt = nf from by first | exact oz_1687f4cc65 g4 hkf_e119 | omega) (show 0 ≤ nf from by first | exact g5 | omega) (show 0 ≤ (cf116 59).toInt from by first | exact oz_16d7fa9f32 e120 g6 | omega) (show (cf116 59).toInt ≤ 4200 from by first | exact e121 | omega) htk (FnT.eq hft (by first | with_reducible rfl | with_reducible assumption | omega)) hfp han hts (hor_z124) _) hT (pr := []) (pcs := [wdP cs h r g tf ta pf na ma wa cf116 ca ef ea xf xa]) hw (oX_call (P := (fun A U H => (oP A g U H))) (pr := []) oG_P hw hA hP) (px_recv hT hw 0 0 rfl rfl rfl) m13_61 m13_58 m13_60 ms_13_12 m1_21 q_Mpg_raise ⟨show (2 * d + 9) + 1 ≤ (5 * (d + 1) + 14) from by first | with_reducible rfl | with_reducible assumption | omega, show 8 + (3 + 11) + (100 * d + 300) ≤ (220 * (d + 1) + 460) from by first | with_reducible rfl | with_reducible assumption | omega⟩ hl.1 rfl (Nat.le_of_ble_eq_true rfl) d_Mpg_measureOne_218 ⟨Nat.le_of_ble_eq_true rfl, Nat.le_of_ble_eq_true rfl⟩) hw hA (fun p127 H locs hp127 hw => ?_)
        obtain ⟨cf126, rfl, e129, e130, e131, e132, e133⟩ := hp127
        replace e129 : KpT cf116 cf126 := e129
        have hkp := hkp.tr e129
        have hkf_e129 : (cf126 38).toInt = (cf 38).toInt := congrArg Int32.toInt (hkp 38 (by decide))
        replace e130 : (cf116 59).toInt ≤ (cf126 59).toInt := e130
        replace e131 : (cf126 59).toInt ≤ 4200 := e131
        replace e132 : (cf126 30).toInt = (cf116 30).toInt := e132
        replace e133 : HgO na ma0 ma (tkl na ma0 ca) d z124 (cf126 59).toInt := e133
        replace hw : pw D A s.heap H locs [wdP cs h r g tf ta pf na ma wa cf126 ca ef ea xf xa] := hw
        refine lv_aload_n S.x S.b d_Mpg_measureOne_221 rfl (lv_at hl 0 rfl) ?_
        refine lv_aload_n S.x S.b d_Mpg_measureOne_222 rfl (lv_at hl 0 rfl) ?_
        refine px_get S k_Mpg hT hw 0 0 19 (v := .ref (r 19)) rfl rfl rfl (by decide) m10_5 d_Mpg_measureOne_223 ?_
        refine lv_iload_n S.x S.b d_Mpg_measureOne_226 rfl (lv_at hl 1 rfl) ?_
        refine px_iald S hT hw 0 15 (n := 2100) (f := (ma 19)) rfl gp_19 (x := p0) (vp_in_iff.mpr (by first | exact oz_376db002e6 hsr0.2.2.1 hrg_z114.1 g1 hm2 hru.2.1 hrg_z114.2.1 g2 hm3 hru.1 | (constructor <;> omega))) d_Mpg_measureOne_227 ?_
        refine lv_topi (fun z134 ez134 => ?_)
        have lz134 := Int32.le_toInt z134
        have uz134 := Int32.toInt_lt z134
        have ha_z134 : z134 = ma0 19 p0.toNatClampNeg := ez134.trans (Ann.b19 han (by first | with_reducible rfl | with_reducible assumption | omega)); have hn_z134 : z134.toInt = (ma0 19 p0.toNatClampNeg).toInt := (by rw [ha_z134]); have hor_z134 : z134.toInt < 0 ∨ (EcV ta (tf 6).toInt na ma0 d m2 m3 z134 ∧ V z134.toNatClampNeg 0) := (by by_cases q9 : z134.toInt < 0; exact Or.inl q9; exact Or.inr ⟨by rw [ha_z134]; exact (ErV.ec (OcV.get hoc (by first | with_reducible rfl | with_reducible assumption | omega))).1, by rw [ez134]; exact OpT.get hvc (by rw [← ez134]; omega)⟩)
        refine px_callv (pr := []) (px_runV (As := [.int z134]) (rest := []) S (c_mp_raise l D cs ma0 ys ns nf d m2 m3 V vl vh h r g tf ta pf na ma wa ca ef ea xf xa cf126 z134  (show 0 ≤ m2 from by first | exact oz_5ba337ca74 hm2 hrg_z114.2.1 hsr0.2.2.1 hrg_z114.1 | omega) (show m3 ≤ (pf 13).toInt from by first | exact oz_8d1dd37214 g1 hru.1 hru.2.1 | omega) (show (pf 13).toInt ≤ 2100 from by first | exact g2 | omega) (show (tf 6).toInt ≤ 2049 from by first | exact g3 | omega) (show (cf126 38).toInt = nf from by first | exact oz_1687f4cc65 g4 hkf_e129 | omega) (show 0 ≤ nf from by first | exact g5 | omega) (show 0 ≤ (cf126 59).toInt from by first | exact oz_fe2fd2b0f6 e130 e120 g6 | omega) (show (cf126 59).toInt ≤ 4200 from by first | exact e131 | omega) htk (FnT.eq hft (by first | with_reducible rfl | with_reducible assumption | omega)) hfp han hts (hor_z134) _) hT (pr := []) (pcs := [wdP cs h r g tf ta pf na ma wa cf126 ca ef ea xf xa]) hw (oX_call (P := (fun A U H => (oP A g U H))) (pr := []) oG_P hw hA hP) (px_recv hT hw 0 0 rfl rfl rfl) m13_61 m13_58 m13_60 ms_13_12 m1_21 q_Mpg_raise ⟨show (2 * d + 9) + 1 ≤ (5 * (d + 1) + 14) from by first | with_reducible rfl | with_reducible assumption | omega, show 8 + (3 + 11) + (100 * d + 300) ≤ (220 * (d + 1) + 460) from by first | with_reducible rfl | with_reducible assumption | omega⟩ hl.1 rfl (Nat.le_of_ble_eq_true rfl) d_Mpg_measureOne_228 ⟨Nat.le_of_ble_eq_true rfl, Nat.le_of_ble_eq_true rfl⟩) hw hA (fun p137 H locs hp137 hw => ?_)
        obtain ⟨cf136, rfl, e139, e140, e141, e142, e143⟩ := hp137
        replace e139 : KpT cf126 cf136 := e139
        have hkp := hkp.tr e139
        have hkf_e139 : (cf136 38).toInt = (cf 38).toInt := congrArg Int32.toInt (hkp 38 (by decide))
        replace e140 : (cf126 59).toInt ≤ (cf136 59).toInt := e140
        replace e141 : (cf136 59).toInt ≤ 4200 := e141
        replace e142 : (cf136 30).toInt = (cf126 30).toInt := e142
        replace e143 : HgO na ma0 ma (tkl na ma0 ca) d z134 (cf136 59).toInt := e143
        replace hw : pw D A s.heap H locs [wdP cs h r g tf ta pf na ma wa cf136 ca ef ea xf xa] := hw
        refine lv_aload_n S.x S.b d_Mpg_measureOne_231 rfl (lv_at hl 0 rfl) ?_
        refine lv_aload_n S.x S.b d_Mpg_measureOne_232 rfl (lv_at hl 0 rfl) ?_
        refine px_get S k_Mpg hT hw 0 0 20 (v := .ref (r 20)) rfl rfl rfl (by decide) m10_6 d_Mpg_measureOne_233 ?_
        refine lv_iload_n S.x S.b d_Mpg_measureOne_236 rfl (lv_at hl 1 rfl) ?_
        refine px_iald S hT hw 0 16 (n := 2100) (f := (ma 20)) rfl gp_20 (x := p0) (vp_in_iff.mpr (by first | exact oz_376db002e6 hsr0.2.2.1 hrg_z114.1 g1 hm2 hru.2.1 hrg_z114.2.1 g2 hm3 hru.1 | (constructor <;> omega))) d_Mpg_measureOne_237 ?_
        refine lv_topi (fun z144 ez144 => ?_)
        have lz144 := Int32.le_toInt z144
        have uz144 := Int32.toInt_lt z144
        have ha_z144 : z144 = ma0 20 p0.toNatClampNeg := ez144.trans (Ann.b20 han (by first | with_reducible rfl | with_reducible assumption | omega) (by first | with_reducible rfl | with_reducible assumption | omega)); have hn_z144 : z144.toInt = (ma0 20 p0.toNatClampNeg).toInt := (by rw [ha_z144]); have hsc_z144 : ScV ta (tf 6).toInt na ma0 d m3 hi w5 z144 := (by rw [ha_z144]; exact hse); have hrg_z144 := ScV.rng hsc_z144; have hvt_z144 : V z144.toNatClampNeg 4 := (by rw [ez144]; exact hvd)
        refine px_callv (pr := []) (px_runV (As := [.int z144]) (rest := []) S (hLQ ma0 ys ns nf m3 hi w5 4 V vl vh h r g tf ta pf na ma wa ca ef ea xf xa cf136 z144 (show 0 ≤ m3 from by first | exact oz_df1d141c94 hm3 hm2 hsr0.2.2.1 hrg_z114.1 hrg_z114.2.1 | omega) (show hi ≤ (pf 13).toInt from by first | exact g1 | omega) (show (pf 13).toInt ≤ 2100 from by first | exact g2 | omega) (show (tf 6).toInt ≤ 2049 from by first | exact g3 | omega) (show (cf136 38).toInt = nf from by first | exact oz_1687f4cc65 g4 hkf_e139 | omega) (show 0 ≤ nf from by first | exact g5 | omega) (show 0 ≤ (cf136 59).toInt from by first | exact oz_0764df89e1 e140 e130 e120 g6 | omega) (show (cf136 59).toInt ≤ 4200 from by first | exact e141 | omega) (show 2 ≤ 4 from by first | decide | omega) (show 4 ≤ 4 from by first | decide | omega) htk (FnT.eq hft (by first | with_reducible rfl | with_reducible assumption | omega)) hfp han hts hsc_z144 hvt_z144 _) hT (pr := []) (pcs := [wdP cs h r g tf ta pf na ma wa cf136 ca ef ea xf xa]) hw (oX_call (P := (fun A U H => (oP A g U H))) (pr := []) oG_P hw hA hP) (px_recv hT hw 0 0 rfl rfl rfl) m13_57 m13_54 m13_56 ms_13_11 m1_21 q_Mpg_measureOne ⟨show (5 * d + 14) + 1 ≤ (5 * (d + 1) + 14) from by first | with_reducible rfl | with_reducible assumption | omega, show 8 + (3 + 11) + (220 * d + 460) ≤ (220 * (d + 1) + 460) from by first | with_reducible rfl | with_reducible assumption | omega⟩ hl.1 rfl (Nat.le_of_ble_eq_true rfl) d_Mpg_measureOne_238 ⟨Nat.le_of_ble_eq_true rfl, Nat.le_of_ble_eq_true rfl⟩) hw hA (fun p147 H locs hp147 hw => ?_)
        obtain ⟨cf146, rfl, e149, e150, e151, e152, e153⟩ := hp147
        replace e149 : KpT cf136 cf146 := e149
        have hkp := hkp.tr e149
        have hkf_e149 : (cf146 38).toInt = (cf 38).toInt := congrArg Int32.toInt (hkp 38 (by decide))
        replace e150 : (cf136 59).toInt ≤ (cf146 59).toInt := e150
        replace e151 : (cf146 59).toInt ≤ 4200 := e151
        replace e152 : (cf146 30).toInt = (cf136 30).toInt := e152
        replace e153 : HsB na ma0 ma (tkl na ma0 ca) d z144 (cf146 59).toInt := e153
        replace hw : pw D A s.heap H locs [wdP cs h r g tf ta pf na ma wa cf146 ca ef ea xf xa] := hw
        refine lv_goto (tgt := 267) S.x S.b d_Mpg_measureOne_241 (by decide) ?_
        exact px_vret S hr hlk hAe hw (Nat.le_of_ble_eq_true rfl) (Nat.le_of_ble_eq_true rfl) (⟨cf146, rfl, (show KpT cf cf146 from hkp), (show (cf 59).toInt ≤ (cf146 59).toInt from by first | exact oz_9abb61197c e120 e150 e130 e140 | omega), (show (cf146 59).toInt ≤ 4200 from by first | exact e151 | omega), (show (cf146 30).toInt = (cf 30).toInt from by first | exact oz_ff3084e3c1 e122 e152 e132 e142 | omega), (show HsB na ma0 ma (tkl na ma0 ca) (d + 1) p0 (cf146 59).toInt from Or.inr (Or.inr (Or.inr (Or.inr (Or.inr (Or.inl (⟨by first | with_reducible rfl | with_reducible assumption | omega, Or.inr (by rw [← ha_z114]; exact (HsB.mono e123 (by first | with_reducible rfl | with_reducible assumption | omega))), by rw [← ha_z124]; exact (HgO.mono e133 (by first | with_reducible rfl | with_reducible assumption | omega)), by rw [← ha_z134]; exact (HgO.mono e143 (by first | with_reducible rfl | with_reducible assumption | omega)), by rw [← ha_z144]; exact (HsB.mono e153 (by first | with_reducible rfl | with_reducible assumption | omega))⟩)))))))⟩) d_Mpg_measureOne_267
    · simp only [List.mem_cons, List.not_mem_nil, or_false] at c28
      refine lv_aload_n S.x S.b d_Mpg_measureOne_244 rfl (lv_at hl 0 rfl) ?_
      refine lv_aload_n S.x S.b d_Mpg_measureOne_245 rfl (lv_at hl 0 rfl) ?_
      obtain ⟨m1, w1, w2, hm1, hm3, hea, hrsA, hws, hw1⟩ := ScV.s28 hsc (by first | with_reducible rfl | with_reducible assumption | omega) (z := na 17 p0.toNatClampNeg) (y := ma0 18 p0.toNatClampNeg) rfl rfl; have hw2 := RvE.wp hrsA; obtain ⟨hva, hvb⟩ := LcS.k28 hls (by first | with_reducible rfl | with_reducible assumption | omega); have htsw := tsw_rng (t := t)
      refine px_get S k_Mpg hT hw 0 0 17 (v := .ref (r 17)) rfl rfl rfl (by decide) m10_1 d_Mpg_measureOne_246 ?_
      refine lv_iload_n S.x S.b d_Mpg_measureOne_249 rfl (lv_at hl 1 rfl) ?_
      refine px_iald S hT hw 0 13 (n := 2100) (f := (na 17)) rfl gp_17 (x := p0) (vp_in_iff.mpr (by first | exact oz_a7e05de1cd hsr0.2.2.1 hsr0.2.1 g1 g2 | (constructor <;> omega))) d_Mpg_measureOne_250 ?_
      refine lv_topi (fun z154 ez154 => ?_)
      have lz154 := Int32.le_toInt z154
      have uz154 := Int32.toInt_lt z154
      have ha_z154 : z154 = na 17 p0.toNatClampNeg := ez154; have hn_z154 : z154.toInt = (na 17 p0.toNatClampNeg).toInt := (by rw [ha_z154]); have hec_z154 : EcV ta (tf 6).toInt na ma0 d (p0.toInt + 1) m1 z154 := (by rw [ha_z154]; exact (ErV.ec hea).1); have hrg_z154 := EcV.rng hec_z154; have hvn_z154 : V z154.toNatClampNeg 0 := (by rw [ez154]; exact hva); have hor_z154 : z154.toInt < 0 ∨ (EcV ta (tf 6).toInt na ma0 d (p0.toInt + 1) m1 z154 ∧ V z154.toNatClampNeg 0) := Or.inr ⟨hec_z154, hvn_z154⟩
      refine px_callv (pr := []) (px_runV (As := [.int z154]) (rest := []) S (c_mp_raise l D cs ma0 ys ns nf d (p0.toInt + 1) m1 V vl vh h r g tf ta pf na ma wa ca ef ea xf xa cf z154  (show 0 ≤ (p0.toInt + 1) from by first | exact oz_c12c169b81 hsr0.2.2.1 | omega) (show m1 ≤ (pf 13).toInt from by first | exact oz_bbb5b20c1a g1 hm3 | omega) (show (pf 13).toInt ≤ 2100 from by first | exact g2 | omega) (show (tf 6).toInt ≤ 2049 from by first | exact g3 | omega) (show (cf 38).toInt = nf from by first | exact g4 | omega) (show 0 ≤ nf from by first | exact g5 | omega) (show 0 ≤ (cf 59).toInt from by first | exact g6 | omega) (show (cf 59).toInt ≤ 4200 from by first | exact g7 | omega) htk (FnT.eq hft (by first | with_reducible rfl | with_reducible assumption | omega)) hfp han hts (hor_z154) _) hT (pr := []) (pcs := [wdP cs h r g tf ta pf na ma wa cf ca ef ea xf xa]) hw (oX_call (P := (fun A U H => (oP A g U H))) (pr := []) oG_P hw hA hP) (px_recv hT hw 0 0 rfl rfl rfl) m13_61 m13_58 m13_60 ms_13_12 m1_21 q_Mpg_raise ⟨show (2 * d + 9) + 1 ≤ (5 * (d + 1) + 14) from by first | with_reducible rfl | with_reducible assumption | omega, show 8 + (3 + 11) + (100 * d + 300) ≤ (220 * (d + 1) + 460) from by first | with_reducible rfl | with_reducible assumption | omega⟩ hl.1 rfl (Nat.le_of_ble_eq_true rfl) d_Mpg_measureOne_251 ⟨Nat.le_of_ble_eq_true rfl, Nat.le_of_ble_eq_true rfl⟩) hw hA (fun p157 H locs hp157 hw => ?_)
      obtain ⟨cf156, rfl, e159, e160, e161, e162, e163⟩ := hp157
      replace e159 : KpT cf cf156 := e159
      have hkp := hkp.tr e159
      have hkf_e159 : (cf156 38).toInt = (cf 38).toInt := congrArg Int32.toInt (hkp 38 (by decide))
      replace e160 : (cf 59).toInt ≤ (cf156 59).toInt := e160
      replace e161 : (cf156 59).toInt ≤ 4200 := e161
      replace e162 : (cf156 30).toInt = (cf 30).toInt := e162
      replace e163 : HgO na ma0 ma (tkl na ma0 ca) d z154 (cf156 59).toInt := e163
      replace hw : pw D A s.heap H locs [wdP cs h r g tf ta pf na ma wa cf156 ca ef ea xf xa] := hw
      refine lv_aload_n S.x S.b d_Mpg_measureOne_254 rfl (lv_at hl 0 rfl) ?_
      refine lv_aload_n S.x S.b d_Mpg_measureOne_255 rfl (lv_at hl 0 rfl) ?_
      refine px_get S k_Mpg hT hw 0 0 18 (v := .ref (r 18)) rfl rfl rfl (by decide) m10_3 d_Mpg_measureOne_256 ?_
      refine lv_iload_n S.x S.b d_Mpg_measureOne_259 rfl (lv_at hl 1 rfl) ?_
      refine px_iald S hT hw 0 14 (n := 2100) (f := (ma 18)) rfl gp_18 (x := p0) (vp_in_iff.mpr (by first | exact oz_410a2b3a09 hsr0.2.2.1 hrg_z154.1 g1 hm3 hrg_z154.2.1 g2 | (constructor <;> omega))) d_Mpg_measureOne_260 ?_
      refine lv_topi (fun z164 ez164 => ?_)
      have lz164 := Int32.le_toInt z164
      have uz164 := Int32.toInt_lt z164
      have ha_z164 : z164 = ma0 18 p0.toNatClampNeg := ez164.trans (Ann.b18 han (by first | with_reducible rfl | with_reducible assumption | omega)); have hn_z164 : z164.toInt = (ma0 18 p0.toNatClampNeg).toInt := (by rw [ha_z164]); have hrs_z164 : RvS ta (tf 6).toInt na ma0 d m1 hi w2 z164 := (by rw [ha_z164]; exact hrsA); have hrw_z164 : RwV0 na V (if t = 4 then 4 else 3) z164 := (by rw [ez164]; exact hvb)
      refine px_callv (pr := []) (px_runV (As := [.int z164]) (rest := []) S (c_mp_measure l D cs ma0 ys ns nf d m1 hi w2 (if t = 4 then 4 else 3) V vl vh h r g tf ta pf na ma wa ca ef ea xf xa cf156 z164  (show 0 ≤ m1 from by first | exact oz_5b675c0aaa hrg_z154.2.1 hsr0.2.2.1 hrg_z154.1 | omega) (show hi ≤ (pf 13).toInt from by first | exact g1 | omega) (show (pf 13).toInt ≤ 2100 from by first | exact g2 | omega) (show (tf 6).toInt ≤ 2049 from by first | exact g3 | omega) (show (cf156 38).toInt = nf from by first | exact oz_1687f4cc65 g4 hkf_e159 | omega) (show 0 ≤ nf from by first | exact g5 | omega) (show 0 ≤ (cf156 59).toInt from by first | exact oz_16d7fa9f32 e160 g6 | omega) (show (cf156 59).toInt ≤ 4200 from by first | exact e161 | omega) (show m1 ≤ hi from by first | exact hm3 | omega) (show 0 ≤ w2 from by first | exact hw2 | omega) (show 2 ≤ (if t = 4 then 4 else 3) from by first | exact htsw.1 | omega) (show (if t = 4 then 4 else 3) ≤ 4 from by first | exact htsw.2 | omega) htk (FnT.eq hft (by first | with_reducible rfl | with_reducible assumption | omega)) hfp han hts hrs_z164 hrw_z164 hLQ _) hT (pr := []) (pcs := [wdP cs h r g tf ta pf na ma wa cf156 ca ef ea xf xa]) hw (oX_call (P := (fun A U H => (oP A g U H))) (pr := []) oG_P hw hA hP) (px_recv hT hw 0 0 rfl rfl rfl) m13_53 m13_50 m13_52 ms_13_10 m1_21 q_Mpg_measure ⟨show (5 * d + 15) + 1 ≤ (5 * (d + 1) + 14) from by first | with_reducible rfl | with_reducible assumption | omega, show 8 + (3 + 11) + (220 * d + 500) ≤ (220 * (d + 1) + 460) from by first | with_reducible rfl | with_reducible assumption | omega⟩ hl.1 rfl (Nat.le_of_ble_eq_true rfl) d_Mpg_measureOne_261 ⟨Nat.le_of_ble_eq_true rfl, Nat.le_of_ble_eq_true rfl⟩) hw hA (fun p167 H locs hp167 hw => ?_)
      obtain ⟨cf166, rfl, e169, e170, e171, e172, e173⟩ := hp167
      replace e169 : KpT cf156 cf166 := e169
      have hkp := hkp.tr e169
      have hkf_e169 : (cf166 38).toInt = (cf 38).toInt := congrArg Int32.toInt (hkp 38 (by decide))
      replace e170 : (cf156 59).toInt ≤ (cf166 59).toInt := e170
      replace e171 : (cf166 59).toInt ≤ 4200 := e171
      replace e172 : (cf166 30).toInt = (cf156 30).toInt := e172
      replace e173 : HsW na ma0 ma (tkl na ma0 ca) d z164 (cf166 59).toInt := e173
      replace hw : pw D A s.heap H locs [wdP cs h r g tf ta pf na ma wa cf166 ca ef ea xf xa] := hw
      refine lv_goto (tgt := 267) S.x S.b d_Mpg_measureOne_264 (by decide) ?_
      exact px_vret S hr hlk hAe hw (Nat.le_of_ble_eq_true rfl) (Nat.le_of_ble_eq_true rfl) (⟨cf166, rfl, (show KpT cf cf166 from hkp), (show (cf 59).toInt ≤ (cf166 59).toInt from by first | exact oz_be764f19f0 e160 e170 | omega), (show (cf166 59).toInt ≤ 4200 from by first | exact e171 | omega), (show (cf166 30).toInt = (cf 30).toInt from by first | exact oz_1687f4cc65 e162 e172 | omega), (show HsB na ma0 ma (tkl na ma0 ca) (d + 1) p0 (cf166 59).toInt from Or.inr (Or.inr (Or.inr (Or.inr (Or.inr (Or.inr ⟨by first | with_reducible rfl | with_reducible assumption | omega, by rw [← ha_z154]; exact (HgO.mono e163 (by first | with_reducible rfl | with_reducible assumption | omega)), by rw [← ha_z164]; exact e173⟩))))))⟩) d_Mpg_measureOne_267
theorem msc_all (l : Launch) (D : va_G) (cs : Nat → ClassId) : ∀ d : Nat, MsC l D cs d := by
  intro d
  induction d with
  | zero => intro ma0 ys ns nf lo hi w t V vl vh h r g tf ta pf na ma wa ca ef ea xf xa cf p0 g0 g1 g2 g3 g4 g5 g6 g7 g8 g9 htk hft hfp han hts hsc hvt; exact (sc_0 hsc).elim
  | succ d ih => intro ma0 ys ns nf lo hi w t V vl vh h r g tf ta pf na ma wa ca ef ea xf xa cf p0 g0 g1 g2 g3 g4 g5 g6 g7 g8 g9 htk hft hfp han hts hsc hvt; exact c_mp_measureOne l D cs ma0 ys ns nf d lo hi w t V vl vh h r g tf ta pf na ma wa ca ef ea xf xa cf p0 g0 g1 g2 g3 g4 g5 g6 g7 g8 g9 htk hft hfp han hts hsc hvt ih
