theorem oz_081636a435 {a0 a1 a2 a3 a4 a5 a6 a7 a8 a9 : Int} (h0 : a3 + a4 + a5 + 4 ≤ a2) (h1 : a6 ≤ a1 + a3) (h2 : a0 ≤ a7 + a5) (h3 : a8 = a6 + 1) (h4 : a9 ≤ a8 + a4) (h5 : a7 = a9 + 1) : a0 ≤ a1 + a2 := by omega
theorem oz_131e74bd78 {a0 a1 a2 : Int} (h0 : a2 = a0 + 1) (h1 : a1 = a2) : a0 ≤ a1 := by omega
theorem oz_43c707d433 {a0 a1 a2 a3 : Int} (h0 : 1 ≤ a2) (h1 : a3 = a1 + 1) (h2 : a0 = a3) : a0 ≤ a1 + a2 := by omega
theorem oz_66e60bda0e {a0 a1 a2 : Int} (h0 : a2 = a0 + 1) (h1 : a1 = a2 + 1) : a0 ≤ a1 := by omega
theorem oz_f500e11f6a {a0 a1 a2 a3 : Int} (h0 : 2 ≤ a2) (h1 : a3 = a1 + 1) (h2 : a0 = a3 + 1) : a0 ≤ a1 + a2 := by omega
theorem oz_d786469a3b {a0 a1 a2 a3 : Int} (h0 : a3 ≤ a1 + (a2 - 2)) (h1 : a0 = a3 + 1) : a0 ≤ a1 + a2 := by omega
theorem m13_79 : Cond.methodLink "HomeSystemModel$Program" 740 ⟨"HomeSystemModel$Program", "makeDeclaration", "(IZ)V"⟩ ∈ AL := AL_13 (List.mem_of_getElem? (i := 79) rfl) rfl
theorem m13_82 : Cond.code ⟨"HomeSystemModel$Program", "makeDeclaration", "(IZ)V"⟩ prog_16_method_114_code 5 (Option.none : Option Jvm.ClassFile.FieldType) ∈ AL := AL_13 (List.mem_of_getElem? (i := 82) rfl) rfl
theorem ms_14_1 : Cond.selects "HomeSystemModel$Program" ⟨"HomeSystemModel$Program", "makeDeclaration", "(IZ)V"⟩ ⟨"HomeSystemModel$Program", "makeDeclaration", "(IZ)V"⟩ ∈ AL := AL_p (q := (⟨"HomeSystemModel$Program", "makeDeclaration", "(IZ)V"⟩, 69)) (by unfold lw_privs; exact List.mem_append_right _ (List.mem_append_right _ (List.mem_append_right _ (List.mem_append_right _ (List.mem_append_right _ (List.mem_append_right _ (List.mem_append_right _ (List.mem_append_right _ (List.mem_append_right _ (List.mem_append_right _ (List.mem_append_right _ (List.mem_append_right _ (List.mem_append_right _ (List.mem_append_left _ (List.mem_of_getElem? (i := 1) rfl)))))))))))))))
theorem m13_81 : Cond.instanceMethod ⟨"HomeSystemModel$Program", "makeDeclaration", "(IZ)V"⟩ ∈ AL := AL_13 (List.mem_of_getElem? (i := 81) rfl) rfl
theorem m13_127 : Cond.methodLink "HomeSystemModel$Program" 743 ⟨"HomeSystemModel$Program", "makeLoop", "(I)V"⟩ ∈ AL := AL_13 (List.mem_of_getElem? (i := 127) rfl) rfl
theorem m13_130 : Cond.code ⟨"HomeSystemModel$Program", "makeLoop", "(I)V"⟩ prog_16_method_117_code 7 (Option.none : Option Jvm.ClassFile.FieldType) ∈ AL := AL_13 (List.mem_of_getElem? (i := 130) rfl) rfl
theorem ms_14_13 : Cond.selects "HomeSystemModel$Program" ⟨"HomeSystemModel$Program", "makeLoop", "(I)V"⟩ ⟨"HomeSystemModel$Program", "makeLoop", "(I)V"⟩ ∈ AL := AL_p (q := (⟨"HomeSystemModel$Program", "makeLoop", "(I)V"⟩, 69)) (by unfold lw_privs; exact List.mem_append_right _ (List.mem_append_right _ (List.mem_append_right _ (List.mem_append_right _ (List.mem_append_right _ (List.mem_append_right _ (List.mem_append_right _ (List.mem_append_right _ (List.mem_append_right _ (List.mem_append_right _ (List.mem_append_right _ (List.mem_append_right _ (List.mem_append_right _ (List.mem_append_left _ (List.mem_of_getElem? (i := 13) rfl)))))))))))))))
theorem m13_129 : Cond.instanceMethod ⟨"HomeSystemModel$Program", "makeLoop", "(I)V"⟩ ∈ AL := AL_13 (List.mem_of_getElem? (i := 129) rfl) rfl
theorem m13_131 : Cond.methodLink "HomeSystemModel$Program" 746 ⟨"HomeSystemModel$Program", "makeSwitch", "(I)V"⟩ ∈ AL := AL_13 (List.mem_of_getElem? (i := 131) rfl) rfl
theorem m13_134 : Cond.code ⟨"HomeSystemModel$Program", "makeSwitch", "(I)V"⟩ prog_16_method_118_code 7 (Option.none : Option Jvm.ClassFile.FieldType) ∈ AL := AL_13 (List.mem_of_getElem? (i := 134) rfl) rfl
theorem ms_14_14 : Cond.selects "HomeSystemModel$Program" ⟨"HomeSystemModel$Program", "makeSwitch", "(I)V"⟩ ⟨"HomeSystemModel$Program", "makeSwitch", "(I)V"⟩ ∈ AL := AL_p (q := (⟨"HomeSystemModel$Program", "makeSwitch", "(I)V"⟩, 69)) (by unfold lw_privs; exact List.mem_append_right _ (List.mem_append_right _ (List.mem_append_right _ (List.mem_append_right _ (List.mem_append_right _ (List.mem_append_right _ (List.mem_append_right _ (List.mem_append_right _ (List.mem_append_right _ (List.mem_append_right _ (List.mem_append_right _ (List.mem_append_right _ (List.mem_append_right _ (List.mem_append_left _ (List.mem_of_getElem? (i := 14) rfl)))))))))))))))
theorem m13_133 : Cond.instanceMethod ⟨"HomeSystemModel$Program", "makeSwitch", "(I)V"⟩ ∈ AL := AL_13 (List.mem_of_getElem? (i := 133) rfl) rfl
set_option maxHeartbeats 4000000 in
set_option maxRecDepth 100000 in
theorem c_mp_st1 (l : Launch) (D : va_G) (cs : Nat → ClassId) (ma0 : Nat → Nat → Int32) (mb : Nat → Nat → Int32) (ys : Int) (ns : Int) (nf : Int) (d : Nat) (lo : Int) (hi : Int) (wt : Int) (V : Nat → Nat → Prop) (vl : Int) (vh : Int) (X9 : Cx) (fi : Int) (lvq : Nat) (bh : Int) (t9 : Nat) (h : Nat) (r : Nat → Nat) (g : Nat → Nat → Option Nat) (tf : Nat → Int32) (ta : Nat → Nat → Int32) (pf : Nat → Int32) (na : Nat → Nat → Int32) (wa : Nat → Nat → Int32) (cf : Nat → Int32) (ca : Nat → Nat → Int32) (xf : Nat → Int32) (xa : Nat → Nat → Int32) (ma : Nat → Nat → Int32) (ef : Nat → Int32) (ea : Nat → Nat → Int32) (p0 : Int32)  (g0 : 0 ≤ (tf 5).toInt) (g1 : (tf 5).toInt ≤ 2048) (g2 : (pf 13).toInt ≤ 2100) (g3 : (tf 6).toInt ≤ 2049) (g4 : (cf 38).toInt = nf) (g5 : 0 ≤ nf) (g6 : 0 ≤ (ef 60).toInt) (g7 : 0 ≤ fi) (g8 : 1 ≤ X9.tall fi) (g9 : bh ≤ X9.tall fi) (g10 : (ef 60).toInt + wt ≤ 7000 + k29 na p0) (htk : TkI tf ta) (hft : FnT (tf 6).toInt na ca (cf 38).toInt) (hfp : FnP na ca nf) (hab : Ann na ma0 mb) (hkc : Kc na mb ma) (htb : Ts (Gk ta ca na ma0 ns ys nf) na mb vl vh V) (hcx : CxI X9 fi ca ns ys nf (tkl na ma0 ca)) (hsk : SkB ta (tf 6).toInt na ma0 mb ca V (d + 1) (pf 13).toInt lo hi wt bh t9 p0) (hLS : StkC l D cs d) : MetV l y_Mpg_makeStatement b_Mpg_makeStatement 4 D cs (5 * (d + 1) + 12) (200 * (d + 1) + 500) (0) (0) [.ref h, .int p0] [wdP cs h r g tf ta pf na ma wa cf ca ef ea xf xa] (oX (fun A U H => (oP A g U H)) [wdP cs h r g tf ta pf na ma wa cf ca ef ea xf xa]) (fun ps => ∃ (ma' : Nat → Nat → Int32) (ef' : Nat → Int32) (ea' : Nat → Nat → Int32), (ps = [wdP cs h r g tf ta pf na ma' wa cf ca ef' ea' xf xa]) ∧ ((ef 60).toInt ≤ (ef' 60).toInt) ∧ ((ef' 60).toInt ≤ (ef 60).toInt + wt) ∧ (CdK ea ea' (ef 60).toInt) ∧ (Kc na mb ma') ∧ (FrL lo hi ma ma') ∧ (StQ X9 (ea' 61) (ef 60).toInt (ef' 60).toInt fi [] lvq t9 (ef 64) (ef' 64) (ef 65) (ef' 65)) ∧ (StX na ma' p0 (ef 60).toInt (ef' 60).toInt (ef 64).toInt (ef' 64).toInt (ef 65).toInt (ef' 65).toInt)) := by
  refine px_enter (by decide) (Nat.le_of_ble_eq_true rfl) ?_
  intro p e s m below meth c A ls hAe S hr hlk hnm hA hT hX hw hl
  replace hl : lv_has ls 4 [(0, .ref h), (1, .int p0)] := hl
  have lp0 := Int32.le_toInt p0
  have up0 := Int32.toInt_lt p0
  have cst0 : (0 : Int32).toInt = 0 := rfl
  have cst1 : (1 : Int32).toInt = 1 := rfl
  have cst12 : (12 : Int32).toInt = 12 := rfl
  have cst13 : (13 : Int32).toInt = 13 := rfl
  have cst17 : (17 : Int32).toInt = 17 := rfl
  have cst18 : (18 : Int32).toInt = 18 := rfl
  have hX : (fun A U H => (oP A g U H)) A s s.heap := by rw [hAe]; exact hX
  have hP := hX
  have hZ := hP.1
  have hF0 := hP.2.1
  have hf11 := hft.1
  have han := hab.kc hkc
  have hts := htb.kc hkc
  have hcd : CdK ea ea (ef 60).toInt := CdK.rf
  have hfl : FrL lo hi ma ma := FrL.rf
  have hl0 : (([] : List Nat).length : Int) = 0 := rfl
  have hsk_p0 := hsk
  have hrs0 := hsk.rng
  refine lv_aload_n S.x S.b d_Mpg_makeStatement_0 rfl (lv_at hl 0 rfl) ?_
  refine px_get S k_Mpg hT hw 0 0 14 (v := .ref (r 14)) rfl rfl rfl (by decide) m9_238 d_Mpg_makeStatement_1 ?_
  refine lv_iload_n S.x S.b d_Mpg_makeStatement_4 rfl (lv_at hl 1 rfl) ?_
  refine px_bald S hT hw 0 10 (n := 2100) (f := (na 14)) rfl gp_14 (x := p0) (vp_in_iff.mpr (by constructor <;> omega)) d_Mpg_makeStatement_5 ?_
  refine lv_topi (fun z1 ez1 => ?_)
  have lz1 := Int32.le_toInt z1
  have uz1 := Int32.toInt_lt z1
  have rz1 : z1.toInt = (na 14 p0.toNatClampNeg).toInt := by rw [ez1]
  refine px_tableD S (dt := 305) [(76, [20]), (305, [21]), (89, [22]), (111, [23]), (120, [24]), (198, [25, 26, 27]), (206, [28]), (214, [29, 30]), (227, [31]), (245, [32]), (263, [33])] d_Mpg_makeStatement_6 (by decide +kernel) (by decide) (by decide +kernel) ?_ ?_
  · intro hdf_6
    exact px_vret S hr hlk hAe hw (Nat.le_of_ble_eq_true rfl) (Nat.le_of_ble_eq_true rfl) (⟨ma, ef, ea, rfl, (show (ef 60).toInt ≤ (ef 60).toInt from by first | exact oz_1cb5f934a5 | omega), (show (ef 60).toInt ≤ (ef 60).toInt + wt from by first | with_reducible rfl | with_reducible assumption | omega), (show CdK ea ea (ef 60).toInt from hcd), (show Kc na mb ma from hkc), (show FrL lo hi ma ma from hfl), (show StQ X9 (ea 61) (ef 60).toInt (ef 60).toInt fi [] lvq t9 (ef 64) (ef 64) (ef 65) (ef 65) from ⟨_, stk_0 (by omega) (by omega) (by omega) (by omega)⟩), (show StX na ma p0 (ef 60).toInt (ef 60).toInt (ef 64).toInt (ef 64).toInt (ef 65).toInt (ef 65).toInt from ⟨fun q9 => by omega, fun q9 => by omega, fun q9 => by omega⟩)⟩) d_Mpg_makeStatement_305
  · refine List.forall_mem_cons.mpr ⟨fun c2 => ?_, List.forall_mem_cons.mpr ⟨fun c2 => ?_, List.forall_mem_cons.mpr ⟨fun c2 => ?_, List.forall_mem_cons.mpr ⟨fun c2 => ?_, List.forall_mem_cons.mpr ⟨fun c2 => ?_, List.forall_mem_cons.mpr ⟨fun c2 => ?_, List.forall_mem_cons.mpr ⟨fun c2 => ?_, List.forall_mem_cons.mpr ⟨fun c2 => ?_, List.forall_mem_cons.mpr ⟨fun c2 => ?_, List.forall_mem_cons.mpr ⟨fun c2 => ?_, List.forall_mem_cons.mpr ⟨fun c2 => ?_, fun _ h => absurd h List.not_mem_nil⟩⟩⟩⟩⟩⟩⟩⟩⟩⟩⟩
    · simp only [List.mem_cons, List.not_mem_nil, or_false] at c2
      refine lv_aload_n S.x S.b d_Mpg_makeStatement_76 rfl (lv_at hl 0 rfl) ?_
      have hk29 : k29 na p0 = 0 := if_neg (by omega)
      refine lv_aload_n S.x S.b d_Mpg_makeStatement_77 rfl (lv_at hl 0 rfl) ?_
      refine px_get S k_Mpg hT hw 0 0 17 (v := .ref (r 17)) rfl rfl rfl (by decide) m10_1 d_Mpg_makeStatement_78 ?_
      refine lv_iload_n S.x S.b d_Mpg_makeStatement_81 rfl (lv_at hl 1 rfl) ?_
      refine px_iald S hT hw 0 13 (n := 2100) (f := (na 17)) rfl gp_17 (x := p0) (vp_in_iff.mpr (by constructor <;> omega)) d_Mpg_makeStatement_82 ?_
      refine lv_topi (fun z3 ez3 => ?_)
      have lz3 := Int32.le_toInt z3
      have uz3 := Int32.toInt_lt z3
      have hrk_z3 : RkB ta (tf 6).toInt na ma0 mb ca V d (pf 13).toInt (p0.toInt + 1) hi wt bh t9 z3 := (by rw [ez3]; exact SkB.f20 htb hsk_p0 (by omega) rfl); have hrw_z3 := hrk_z3.wp; have hzz_z3 : z3 = na 17 p0.toNatClampNeg := (by rw [ez3])
      refine px_callv (pr := []) (px_runV (As := [.int z3]) (rest := []) S (c_mp_makeRow l D cs ma0 mb ys ns nf d (p0.toInt + 1) hi wt V vl vh X9 fi lvq bh t9 h r g tf ta pf na wa cf ca xf xa ma ef ea z3  (show 0 ≤ (tf 5).toInt from by first | exact g0 | omega) (show (tf 5).toInt ≤ 2048 from by first | exact g1 | omega) (show (pf 13).toInt ≤ 2100 from by first | exact g2 | omega) (show (tf 6).toInt ≤ 2049 from by first | exact g3 | omega) (show (cf 38).toInt = nf from by first | exact g4 | omega) (show 0 ≤ nf from by first | exact g5 | omega) (show 0 ≤ (ef 60).toInt from by first | exact g6 | omega) (show 0 ≤ fi from by first | exact g7 | omega) (show 1 ≤ X9.tall fi from by first | exact g8 | omega) (show bh ≤ X9.tall fi from by first | exact g9 | omega) (show (ef 60).toInt + wt ≤ 7000 from by first | with_reducible rfl | with_reducible assumption | omega) (show (p0.toInt + 1) ≤ hi from by first | with_reducible rfl | with_reducible assumption | omega) htk (FnT.eq hft (by omega)) hfp hab hkc htb hcx hrk_z3 hLS _) hT (pr := []) (pcs := [wdP cs h r g tf ta pf na ma wa cf ca ef ea xf xa]) hw (oX_call (P := (fun A U H => (oP A g U H))) (pr := []) oG_P hw hA hP) (px_recv hT hw 0 0 rfl rfl rfl) m13_122 m13_119 m13_121 ms_14_11 m1_21 q_Mpg_makeRow ⟨show (5 * d + 13) + 1 ≤ (5 * (d + 1) + 12) from by first | with_reducible rfl | with_reducible assumption | omega, show 8 + (3 + 11) + (200 * d + 560) ≤ (200 * (d + 1) + 500) from by first | with_reducible rfl | with_reducible assumption | omega⟩ hl.1 rfl (Nat.le_of_ble_eq_true rfl) d_Mpg_makeStatement_83 ⟨Nat.le_of_ble_eq_true rfl, Nat.le_of_ble_eq_true rfl⟩) hw hA (fun p10 H locs hp10 hw => ?_)
      obtain ⟨ma7, ef8, ea9, rfl, e12, e13, e14, e15, e16, e17⟩ := hp10
      replace e12 : (ef 60).toInt ≤ (ef8 60).toInt := e12
      replace e13 : (ef8 60).toInt ≤ (ef 60).toInt + wt := e13
      replace e14 : CdK ea ea9 (ef 60).toInt := e14
      have hcd := hcd.tr e14 (by omega)
      replace e15 : Kc na mb ma7 := e15
      have hkc := e15
      have han := hab.kc hkc
      have hts := htb.kc hkc
      replace e16 : FrL (p0.toInt + 1) hi ma ma7 := e16
      have hfl := hfl.tr e16 (by omega) (by omega)
      replace e17 : StW X9 (ea9 61) (ef 60).toInt (ef8 60).toInt fi [] lvq t9 (ef 64) (ef8 64) (ef 65) (ef8 65) na ma7 hi z3 := e17
      replace hw : pw D A s.heap H locs [wdP cs h r g tf ta pf na ma7 wa cf ca ef8 ea9 xf xa] := hw
      refine lv_goto (tgt := 305) S.x S.b d_Mpg_makeStatement_86 (by decide) ?_
      exact px_vret S hr hlk hAe hw (Nat.le_of_ble_eq_true rfl) (Nat.le_of_ble_eq_true rfl) (⟨ma7, ef8, ea9, rfl, (show (ef 60).toInt ≤ (ef8 60).toInt from by first | exact e12 | omega), (show (ef8 60).toInt ≤ (ef 60).toInt + wt from by first | exact e13 | omega), (show CdK ea ea9 (ef 60).toInt from hcd), (show Kc na mb ma7 from hkc), (show FrL lo hi ma ma7 from hfl), (show StQ X9 (ea9 61) (ef 60).toInt (ef8 60).toInt fi [] lvq t9 (ef 64) (ef8 64) (ef 65) (ef8 65) from ((StW.q e17).tq (by omega) (by omega) (by omega) (by omega) (by omega) (by omega))), (show StX na ma7 p0 (ef 60).toInt (ef8 60).toInt (ef 64).toInt (ef8 64).toInt (ef 65).toInt (ef8 65).toInt from ⟨fun q9 => by omega, fun q9 => by omega, fun q9 => by omega⟩)⟩) d_Mpg_makeStatement_305
    · simp only [List.mem_cons, List.not_mem_nil, or_false] at c2
      exact px_vret S hr hlk hAe hw (Nat.le_of_ble_eq_true rfl) (Nat.le_of_ble_eq_true rfl) (⟨ma, ef, ea, rfl, (show (ef 60).toInt ≤ (ef 60).toInt from by first | exact oz_1cb5f934a5 | omega), (show (ef 60).toInt ≤ (ef 60).toInt + wt from by first | with_reducible rfl | with_reducible assumption | omega), (show CdK ea ea (ef 60).toInt from hcd), (show Kc na mb ma from hkc), (show FrL lo hi ma ma from hfl), (show StQ X9 (ea 61) (ef 60).toInt (ef 60).toInt fi [] lvq t9 (ef 64) (ef 64) (ef 65) (ef 65) from ⟨_, stk_0 (by omega) (by omega) (by omega) (by omega)⟩), (show StX na ma p0 (ef 60).toInt (ef 60).toInt (ef 64).toInt (ef 64).toInt (ef 65).toInt (ef 65).toInt from ⟨fun q9 => by omega, fun q9 => by omega, fun q9 => by omega⟩)⟩) d_Mpg_makeStatement_305
    · simp only [List.mem_cons, List.not_mem_nil, or_false] at c2
      refine lv_aload_n S.x S.b d_Mpg_makeStatement_89 rfl (lv_at hl 0 rfl) ?_
      have hk29 : k29 na p0 = 0 := if_neg (by omega)
      refine lv_aload_n S.x S.b d_Mpg_makeStatement_90 rfl (lv_at hl 0 rfl) ?_
      refine px_get S k_Mpg hT hw 0 0 17 (v := .ref (r 17)) rfl rfl rfl (by decide) m10_1 d_Mpg_makeStatement_91 ?_
      refine lv_iload_n S.x S.b d_Mpg_makeStatement_94 rfl (lv_at hl 1 rfl) ?_
      refine px_iald S hT hw 0 13 (n := 2100) (f := (na 17)) rfl gp_17 (x := p0) (vp_in_iff.mpr (by constructor <;> omega)) d_Mpg_makeStatement_95 ?_
      refine lv_topi (fun z18 ez18 => ?_)
      have lz18 := Int32.le_toInt z18
      have uz18 := Int32.toInt_lt z18
      have hmk_z18 : MkB ta (tf 6).toInt na ma0 ma ca (V1 V) d (pf 13).toInt (wt - 1) bh z18 := (by rw [ez18]; exact (SkB.f22 htb hsk_p0 (by omega) rfl).kc hkc); have hec_z18 := hmk_z18.ec; have hrg_z18 := EcV.rng hec_z18; have hnn_z18 := hmk_z18.nn
      refine px_callv (pr := []) (px_runV (As := [.int z18]) (rest := []) S (c_S_make l D cs ma0 ys ns nf d (wt - 1) (V1 V) vl vh X9 fi [] lvq bh h r g tf ta pf na ma wa cf ca xf xa ef ea z18  (show (pf 13).toInt ≤ 2100 from by first | exact g2 | omega) (show (tf 6).toInt ≤ 2049 from by first | exact g3 | omega) (show (cf 38).toInt = nf from by first | exact g4 | omega) (show 0 ≤ nf from by first | exact g5 | omega) (show 0 ≤ (ef 60).toInt from by first | exact g6 | omega) (show (ef 60).toInt + (wt - 1) ≤ 7000 from by first | with_reducible rfl | with_reducible assumption | omega) (show ([].length : Int) + bh ≤ X9.tall fi from by first | with_reducible rfl | with_reducible assumption | omega) htk (FnT.eq hft (by omega)) hfp han hts hcx hmk_z18 _) hT (pr := []) (pcs := [wdP cs h r g tf ta pf na ma wa cf ca ef ea xf xa]) hw (oX_call (P := (fun A U H => (oP A g U H))) (pr := []) oG_P hw hA hP) (px_recv hT hw 0 0 rfl rfl rfl) m13_90 m13_87 m13_89 ms_14_3 m1_21 q_Mpg_make2 ⟨show (2 * d + 10) + 1 ≤ (5 * (d + 1) + 12) from by first | with_reducible rfl | with_reducible assumption | omega, show 8 + (8 + 11) + (120 * d + 320) ≤ (200 * (d + 1) + 500) from by first | with_reducible rfl | with_reducible assumption | omega⟩ hl.1 rfl (Nat.le_of_ble_eq_true rfl) d_Mpg_makeStatement_96 ⟨Nat.le_of_ble_eq_true rfl, Nat.le_of_ble_eq_true rfl⟩) hw hA (fun p23 H locs hp23 hw => ?_)
      obtain ⟨ef21, ea22, rfl, e25, e26, e27, e28, e29, e30⟩ := hp23
      replace e25 : (ef 60).toInt ≤ (ef21 60).toInt := e25
      replace e26 : (ef21 60).toInt ≤ (ef 60).toInt + (wt - 1) := e26
      replace e27 : (ef21 64).toInt = (ef 64).toInt := e27
      replace e28 : (ef21 65).toInt = (ef 65).toInt := e28
      replace e29 : CdK ea ea22 (ef 60).toInt := e29
      have hcd := hcd.tr e29 (by omega)
      replace e30 : SgQ X9 (ea22 61) (ef 60).toInt (ef21 60).toInt fi [] (0 :: []) lvq := e30
      replace hw : pw D A s.heap H locs [wdP cs h r g tf ta pf na ma wa cf ca ef21 ea22 xf xa] := hw
      refine lv_aload_n S.x S.b d_Mpg_makeStatement_99 rfl (lv_at hl 0 rfl) ?_
      refine lv_bipush (v := 17) S.x S.b d_Mpg_makeStatement_100 (by decide) ?_
      refine lv_iconst (v := 0) S.x S.b d_Mpg_makeStatement_102 (by decide) ?_
      refine lv_iconst (v := 0) S.x S.b d_Mpg_makeStatement_103 (by decide) ?_
      refine px_calli (pr := []) (px_runV (As := [.int 17, .int 0, .int 0]) (rest := []) S (c_mp_emit l D cs h r g tf ta pf na ma wa cf ca xf xa ef21 ea22 17 0 0  (show 0 ≤ (ef21 60).toInt from by first | exact oz_16d7fa9f32 e25 g6 | omega) (show (ef21 60).toInt < 7000 from by first | with_reducible rfl | with_reducible assumption | omega) _) hT (pr := []) (pcs := [wdP cs h r g tf ta pf na ma wa cf ca ef21 ea22 xf xa]) hw px_X.tt (px_recv hT hw 0 0 rfl rfl rfl) m13_86 m13_83 m13_85 ms_14_2 m1_21 q_Mpg_emit ⟨show 0 + 1 ≤ (5 * (d + 1) + 12) from by first | with_reducible rfl | with_reducible assumption | omega, show 8 + (4 + 11) + 0 ≤ (200 * (d + 1) + 500) from by first | with_reducible rfl | with_reducible assumption | omega⟩ hl.1 rfl (Nat.le_of_ble_eq_true rfl) d_Mpg_makeStatement_104 ⟨Nat.le_of_ble_eq_true rfl, Nat.le_of_ble_eq_true rfl⟩) hw hA (fun v36 p35 H locs hp35 hw => ?_)
      obtain ⟨ef33, ea34, rfl, e37, e38, e39, e40, e41⟩ := hp35
      replace e37 : v36.toInt = (ef21 60).toInt := e37
      replace e38 : (ef33 60).toInt = (ef21 60).toInt + 1 := e38
      replace e39 : (ef33 64).toInt = (ef21 64).toInt := e39
      replace e40 : (ef33 65).toInt = (ef21 65).toInt := e40
      replace e41 : EmU ea22 ea34 (ef21 60) (17 : Int32) (0 : Int32) (0 : Int32) := e41
      have hcd := hcd.tr e41.cd (by omega)
      replace hw : pw D A s.heap H locs [wdP cs h r g tf ta pf na ma wa cf ca ef33 ea34 xf xa] := hw
      have lv36 := Int32.le_toInt v36
      have uv36 := Int32.toInt_lt v36
      refine lv_pop S.x S.b d_Mpg_makeStatement_107 rfl ?_
      refine lv_goto (tgt := 305) S.x S.b d_Mpg_makeStatement_108 (by decide) ?_
      exact px_vret S hr hlk hAe hw (Nat.le_of_ble_eq_true rfl) (Nat.le_of_ble_eq_true rfl) (⟨ma, ef33, ea34, rfl, (show (ef 60).toInt ≤ (ef33 60).toInt from by first | exact oz_887c409de9 e25 e38 | omega), (show (ef33 60).toInt ≤ (ef 60).toInt + wt from by first | exact oz_8a56fd6753 e26 e38 | omega), (show CdK ea ea34 (ef 60).toInt from hcd), (show Kc na mb ma from hkc), (show FrL lo hi ma ma from hfl), (show StQ X9 (ea34 61) (ef 60).toInt (ef33 60).toInt fi [] lvq t9 (ef 64) (ef33 64) (ef 65) (ef33 65) from (stk_sg ((e30.em e41 (by omega) rfl (by omega) (.pop [] rfl)).tq (by omega) (by omega) rfl) (by omega) (by omega))), (show StX na ma p0 (ef 60).toInt (ef33 60).toInt (ef 64).toInt (ef33 64).toInt (ef 65).toInt (ef33 65).toInt from ⟨fun q9 => by omega, fun q9 => by omega, fun q9 => by omega⟩)⟩) d_Mpg_makeStatement_305
    · simp only [List.mem_cons, List.not_mem_nil, or_false] at c2
      refine lv_aload_n S.x S.b d_Mpg_makeStatement_111 rfl (lv_at hl 0 rfl) ?_
      have hk29 : k29 na p0 = 0 := if_neg (by omega)
      refine lv_iload_n S.x S.b d_Mpg_makeStatement_112 rfl (lv_at hl 1 rfl) ?_
      refine lv_iconst (v := 0) S.x S.b d_Mpg_makeStatement_113 (by decide) ?_
      have hvk := SkB.f23 htb hsk_p0 (by omega) (z := na 17 p0.toNatClampNeg) rfl
      refine px_callv (pr := []) (px_runV (As := [.int p0, .int 0]) (rest := []) S (c_mp_makeDeclaration l D cs ma0 mb ys ns nf d (p0.toInt + 1) hi wt V vl vh X9 fi lvq bh 5 [] h r g tf ta pf na ma wa cf ca xf xa ef ea p0 0  (show (pf 13).toInt ≤ 2100 from by first | exact g2 | omega) (show (tf 6).toInt ≤ 2049 from by first | exact g3 | omega) (show (cf 38).toInt = nf from by first | exact g4 | omega) (show 0 ≤ nf from by first | exact g5 | omega) (show 0 ≤ (ef 60).toInt from by first | exact g6 | omega) (show (ef 60).toInt + wt ≤ 7000 from by first | with_reducible rfl | with_reducible assumption | omega) (show ([].length : Int) + bh ≤ X9.tall fi from by first | with_reducible rfl | with_reducible assumption | omega) (show ([].length : Int) + 1 ≤ X9.tall fi from by first | with_reducible rfl | with_reducible assumption | omega) (show 0 ≤ (tf 5).toInt from by first | exact g0 | omega) (show (tf 5).toInt ≤ 2048 from by first | exact g1 | omega) (show 0 ≤ p0.toInt from by first | with_reducible rfl | with_reducible assumption | omega) (show p0.toInt < (pf 13).toInt from by first | with_reducible rfl | with_reducible assumption | omega) (show 0 ≤ (0 : Int) from by first | decide | omega) (show (0 : Int) ≤ 1 from by first | decide | omega) (show (0 : Int) = 0 → 5 = 5 from by first | with_reducible rfl | with_reducible assumption | omega) (show (p0.toInt + 1) ≤ hi from by first | with_reducible rfl | with_reducible assumption | omega) htk (FnT.eq hft (by omega)) hfp hab hkc htb hcx hvk _) hT (pr := []) (pcs := [wdP cs h r g tf ta pf na ma wa cf ca ef ea xf xa]) hw (oX_call (P := (fun A U H => (oP A g U H))) (pr := []) oG_P hw hA hP) (px_recv hT hw 0 0 rfl rfl rfl) m13_82 m13_79 m13_81 ms_14_1 m1_21 q_Mpg_makeDeclaration ⟨show (2 * d + 12) + 1 ≤ (5 * (d + 1) + 12) from by first | with_reducible rfl | with_reducible assumption | omega, show 8 + (5 + 11) + (120 * d + 440) ≤ (200 * (d + 1) + 500) from by first | with_reducible rfl | with_reducible assumption | omega⟩ hl.1 rfl (Nat.le_of_ble_eq_true rfl) d_Mpg_makeStatement_114 ⟨Nat.le_of_ble_eq_true rfl, Nat.le_of_ble_eq_true rfl⟩) hw hA (fun p46 H locs hp46 hw => ?_)
      obtain ⟨ef44, ea45, rfl, e48, e49, e50, e51, e52, e53⟩ := hp46
      replace e48 : (ef 60).toInt ≤ (ef44 60).toInt := e48
      replace e49 : (ef44 64).toInt = (ef 64).toInt := e49
      replace e50 : (ef44 65).toInt = (ef 65).toInt := e50
      replace e51 : CdK ea ea45 (ef 60).toInt := e51
      have hcd := hcd.tr e51 (by omega)
      replace e52 : SgQ X9 (ea45 61) (ef 60).toInt (ef44 60).toInt fi [] [] lvq := e52
      replace e53 : (ef44 60).toInt ≤ (ef 60).toInt + wt := e53
      replace hw : pw D A s.heap H locs [wdP cs h r g tf ta pf na ma wa cf ca ef44 ea45 xf xa] := hw
      refine lv_goto (tgt := 305) S.x S.b d_Mpg_makeStatement_117 (by decide) ?_
      exact px_vret S hr hlk hAe hw (Nat.le_of_ble_eq_true rfl) (Nat.le_of_ble_eq_true rfl) (⟨ma, ef44, ea45, rfl, (show (ef 60).toInt ≤ (ef44 60).toInt from by first | exact e48 | omega), (show (ef44 60).toInt ≤ (ef 60).toInt + wt from by first | exact e53 | omega), (show CdK ea ea45 (ef 60).toInt from hcd), (show Kc na mb ma from hkc), (show FrL lo hi ma ma from hfl), (show StQ X9 (ea45 61) (ef 60).toInt (ef44 60).toInt fi [] lvq t9 (ef 64) (ef44 64) (ef 65) (ef44 65) from (stk_sg (e52.tq (by omega) (by omega) rfl) (by omega) (by omega))), (show StX na ma p0 (ef 60).toInt (ef44 60).toInt (ef 64).toInt (ef44 64).toInt (ef 65).toInt (ef44 65).toInt from ⟨fun q9 => by omega, fun q9 => by omega, fun q9 => by omega⟩)⟩) d_Mpg_makeStatement_305
    · simp only [List.mem_cons, List.not_mem_nil, or_false] at c2
      refine lv_aload_n S.x S.b d_Mpg_makeStatement_120 rfl (lv_at hl 0 rfl) ?_
      have hk29 : k29 na p0 = 0 := if_neg (by omega)
      obtain ⟨m1, m2, wq, wb, we, hm1, hmka, hskb, hske, hws⟩ := SkB.f24 htb hab hsk_p0 (by omega)
      refine lv_aload_n S.x S.b d_Mpg_makeStatement_121 rfl (lv_at hl 0 rfl) ?_
      refine px_get S k_Mpg hT hw 0 0 17 (v := .ref (r 17)) rfl rfl rfl (by decide) m10_1 d_Mpg_makeStatement_122 ?_
      refine lv_iload_n S.x S.b d_Mpg_makeStatement_125 rfl (lv_at hl 1 rfl) ?_
      refine px_iald S hT hw 0 13 (n := 2100) (f := (na 17)) rfl gp_17 (x := p0) (vp_in_iff.mpr (by constructor <;> omega)) d_Mpg_makeStatement_126 ?_
      refine lv_topi (fun z54 ez54 => ?_)
      have lz54 := Int32.le_toInt z54
      have uz54 := Int32.toInt_lt z54
      have hmk_z54 : MkB ta (tf 6).toInt na ma0 ma ca (V1 V) d (pf 13).toInt wq bh z54 := (by rw [ez54]; exact (hmka).kc hkc); have hec_z54 := hmk_z54.ec; have hrg_z54 := EcV.rng hec_z54; have hnn_z54 := hmk_z54.nn
      refine px_callv (pr := []) (px_runV (As := [.int z54]) (rest := []) S (c_S_make l D cs ma0 ys ns nf d wq (V1 V) vl vh X9 fi [] lvq bh h r g tf ta pf na ma wa cf ca xf xa ef ea z54  (show (pf 13).toInt ≤ 2100 from by first | exact g2 | omega) (show (tf 6).toInt ≤ 2049 from by first | exact g3 | omega) (show (cf 38).toInt = nf from by first | exact g4 | omega) (show 0 ≤ nf from by first | exact g5 | omega) (show 0 ≤ (ef 60).toInt from by first | exact g6 | omega) (show (ef 60).toInt + wq ≤ 7000 from by first | with_reducible rfl | with_reducible assumption | omega) (show ([].length : Int) + bh ≤ X9.tall fi from by first | with_reducible rfl | with_reducible assumption | omega) htk (FnT.eq hft (by omega)) hfp han hts hcx hmk_z54 _) hT (pr := []) (pcs := [wdP cs h r g tf ta pf na ma wa cf ca ef ea xf xa]) hw (oX_call (P := (fun A U H => (oP A g U H))) (pr := []) oG_P hw hA hP) (px_recv hT hw 0 0 rfl rfl rfl) m13_90 m13_87 m13_89 ms_14_3 m1_21 q_Mpg_make2 ⟨show (2 * d + 10) + 1 ≤ (5 * (d + 1) + 12) from by first | with_reducible rfl | with_reducible assumption | omega, show 8 + (8 + 11) + (120 * d + 320) ≤ (200 * (d + 1) + 500) from by first | with_reducible rfl | with_reducible assumption | omega⟩ hl.1 rfl (Nat.le_of_ble_eq_true rfl) d_Mpg_makeStatement_127 ⟨Nat.le_of_ble_eq_true rfl, Nat.le_of_ble_eq_true rfl⟩) hw hA (fun p59 H locs hp59 hw => ?_)
      obtain ⟨ef57, ea58, rfl, e61, e62, e63, e64, e65, e66⟩ := hp59
      replace e61 : (ef 60).toInt ≤ (ef57 60).toInt := e61
      replace e62 : (ef57 60).toInt ≤ (ef 60).toInt + wq := e62
      replace e63 : (ef57 64).toInt = (ef 64).toInt := e63
      replace e64 : (ef57 65).toInt = (ef 65).toInt := e64
      replace e65 : CdK ea ea58 (ef 60).toInt := e65
      have hcd := hcd.tr e65 (by omega)
      replace e66 : SgQ X9 (ea58 61) (ef 60).toInt (ef57 60).toInt fi [] (0 :: []) lvq := e66
      replace hw : pw D A s.heap H locs [wdP cs h r g tf ta pf na ma wa cf ca ef57 ea58 xf xa] := hw
      refine lv_aload_n S.x S.b d_Mpg_makeStatement_130 rfl (lv_at hl 0 rfl) ?_
      refine lv_bipush (v := 13) S.x S.b d_Mpg_makeStatement_131 (by decide) ?_
      refine lv_iconst (v := 0) S.x S.b d_Mpg_makeStatement_133 (by decide) ?_
      refine lv_iconst (v := 0) S.x S.b d_Mpg_makeStatement_134 (by decide) ?_
      refine px_calli (pr := []) (px_runV (As := [.int 13, .int 0, .int 0]) (rest := []) S (c_mp_emit l D cs h r g tf ta pf na ma wa cf ca xf xa ef57 ea58 13 0 0  (show 0 ≤ (ef57 60).toInt from by first | exact oz_16d7fa9f32 e61 g6 | omega) (show (ef57 60).toInt < 7000 from by first | with_reducible rfl | with_reducible assumption | omega) _) hT (pr := []) (pcs := [wdP cs h r g tf ta pf na ma wa cf ca ef57 ea58 xf xa]) hw px_X.tt (px_recv hT hw 0 0 rfl rfl rfl) m13_86 m13_83 m13_85 ms_14_2 m1_21 q_Mpg_emit ⟨show 0 + 1 ≤ (5 * (d + 1) + 12) from by first | with_reducible rfl | with_reducible assumption | omega, show 8 + (4 + 11) + 0 ≤ (200 * (d + 1) + 500) from by first | with_reducible rfl | with_reducible assumption | omega⟩ hl.1 rfl (Nat.le_of_ble_eq_true rfl) d_Mpg_makeStatement_135 ⟨Nat.le_of_ble_eq_true rfl, Nat.le_of_ble_eq_true rfl⟩) hw hA (fun v72 p71 H locs hp71 hw => ?_)
      obtain ⟨ef69, ea70, rfl, e73, e74, e75, e76, e77⟩ := hp71
      replace e73 : v72.toInt = (ef57 60).toInt := e73
      replace e74 : (ef69 60).toInt = (ef57 60).toInt + 1 := e74
      replace e75 : (ef69 64).toInt = (ef57 64).toInt := e75
      replace e76 : (ef69 65).toInt = (ef57 65).toInt := e76
      replace e77 : EmU ea58 ea70 (ef57 60) (13 : Int32) (0 : Int32) (0 : Int32) := e77
      have hcd := hcd.tr e77.cd (by omega)
      replace hw : pw D A s.heap H locs [wdP cs h r g tf ta pf na ma wa cf ca ef69 ea70 xf xa] := hw
      have lv72 := Int32.le_toInt v72
      have uv72 := Int32.toInt_lt v72
      refine lv_istore_n (lv' := [(2, .int v72), (0, .ref h), (1, .int p0)]) S.x S.b d_Mpg_makeStatement_138 rfl hl (by decide) rfl (fun ls hl => ?_)
      refine lv_aload_n S.x S.b d_Mpg_makeStatement_139 rfl (lv_at hl 1 rfl) ?_
      refine lv_aload_n S.x S.b d_Mpg_makeStatement_140 rfl (lv_at hl 1 rfl) ?_
      refine px_get S k_Mpg hT hw 0 0 18 (v := .ref (r 18)) rfl rfl rfl (by decide) m10_3 d_Mpg_makeStatement_141 ?_
      refine lv_iload_n S.x S.b d_Mpg_makeStatement_144 rfl (lv_at hl 2 rfl) ?_
      refine px_iald S hT hw 0 14 (n := 2100) (f := (ma 18)) rfl gp_18 (x := p0) (vp_in_iff.mpr (by constructor <;> omega)) d_Mpg_makeStatement_145 ?_
      refine lv_topi (fun z78 ez78 => ?_)
      have lz78 := Int32.le_toInt z78
      have uz78 := Int32.toInt_lt z78
      have hsk_z78 : SkB ta (tf 6).toInt na ma0 mb ca V d (pf 13).toInt m1 m2 wb bh t9 z78 := (by rw [ez78, hkc.f (k := 18) (x := p0.toNatClampNeg) (by decide)]; exact hskb); have hrs_z78 := hsk_z78.rng; have hk9_z78 := k29_r (na := na) (n := z78)
      refine px_callv (pr := []) (px_runV (As := [.int z78]) (rest := []) S (hLS ma0 mb ys ns nf m1 m2 wb V vl vh X9 fi lvq bh t9 h r g tf ta pf na wa cf ca xf xa ma ef69 ea70 z78 (show 0 ≤ (tf 5).toInt from by first | exact g0 | omega) (show (tf 5).toInt ≤ 2048 from by first | exact g1 | omega) (show (pf 13).toInt ≤ 2100 from by first | exact g2 | omega) (show (tf 6).toInt ≤ 2049 from by first | exact g3 | omega) (show (cf 38).toInt = nf from by first | exact g4 | omega) (show 0 ≤ nf from by first | exact g5 | omega) (show 0 ≤ (ef69 60).toInt from by first | exact oz_2188d1bf01 e74 e61 g6 | omega) (show 0 ≤ fi from by first | exact g7 | omega) (show 1 ≤ X9.tall fi from by first | exact g8 | omega) (show bh ≤ X9.tall fi from by first | exact g9 | omega) (show (ef69 60).toInt + wb ≤ 7000 + k29 na z78 from by first | with_reducible rfl | with_reducible assumption | omega) htk (FnT.eq hft (by omega)) hfp hab hkc htb hcx hsk_z78 _) hT (pr := []) (pcs := [wdP cs h r g tf ta pf na ma wa cf ca ef69 ea70 xf xa]) hw (oX_call (P := (fun A U H => (oP A g U H))) (pr := []) oG_P hw hA hP) (px_recv hT hw 0 0 rfl rfl rfl) m13_126 m13_123 m13_125 ms_14_12 m1_21 q_Mpg_makeStatement ⟨show (5 * d + 12) + 1 ≤ (5 * (d + 1) + 12) from by first | with_reducible rfl | with_reducible assumption | omega, show 8 + (4 + 11) + (200 * d + 500) ≤ (200 * (d + 1) + 500) from by first | with_reducible rfl | with_reducible assumption | omega⟩ hl.1 rfl (Nat.le_of_ble_eq_true rfl) d_Mpg_makeStatement_146 ⟨Nat.le_of_ble_eq_true rfl, Nat.le_of_ble_eq_true rfl⟩) hw hA (fun p85 H locs hp85 hw => ?_)
      obtain ⟨ma82, ef83, ea84, rfl, e87, e88, e89, e90, e91, e92, e93⟩ := hp85
      replace e87 : (ef69 60).toInt ≤ (ef83 60).toInt := e87
      replace e88 : (ef83 60).toInt ≤ (ef69 60).toInt + wb := e88
      replace e89 : CdK ea70 ea84 (ef69 60).toInt := e89
      have hcd := hcd.tr e89 (by omega)
      replace e90 : Kc na mb ma82 := e90
      have hkc := e90
      have han := hab.kc hkc
      have hts := htb.kc hkc
      replace e91 : FrL m1 m2 ma ma82 := e91
      have hfl := hfl.tr e91 (by omega) (by omega)
      replace e92 : StQ X9 (ea84 61) (ef69 60).toInt (ef83 60).toInt fi [] lvq t9 (ef69 64) (ef83 64) (ef69 65) (ef83 65) := e92
      replace e93 : StX na ma82 z78 (ef69 60).toInt (ef83 60).toInt (ef69 64).toInt (ef83 64).toInt (ef69 65).toInt (ef83 65).toInt := e93
      replace hw : pw D A s.heap H locs [wdP cs h r g tf ta pf na ma82 wa cf ca ef83 ea84 xf xa] := hw
      refine lv_aload_n S.x S.b d_Mpg_makeStatement_149 rfl (lv_at hl 1 rfl) ?_
      refine px_get S k_Mpg hT hw 0 0 19 (v := .ref (r 19)) rfl rfl rfl (by decide) m10_5 d_Mpg_makeStatement_150 ?_
      refine lv_iload_n S.x S.b d_Mpg_makeStatement_153 rfl (lv_at hl 2 rfl) ?_
      refine px_iald S hT hw 0 15 (n := 2100) (f := (ma82 19)) rfl gp_19 (x := p0) (vp_in_iff.mpr (by constructor <;> omega)) d_Mpg_makeStatement_154 ?_
      refine lv_topi (fun z94 ez94 => ?_)
      have lz94 := Int32.le_toInt z94
      have uz94 := Int32.toInt_lt z94
      refine lv_if_lt (tgt := 190) S.x S.b d_Mpg_makeStatement_155 (by decide) (fun c95 => ?_) (fun c95 => ?_)
      · have nc95 : z94.toInt < (0 : Int) := (i_lt (x := z94) (y := 0)).mp c95
        refine lv_aload_n S.x S.b d_Mpg_makeStatement_190 rfl (lv_at hl 1 rfl) ?_
        refine lv_iload_n S.x S.b d_Mpg_makeStatement_191 rfl (lv_at hl 0 rfl) ?_
        refine px_callv (pr := []) (px_runV (As := [.int v72]) (rest := []) S (c_mp_land l D cs h r g tf ta pf na ma82 wa cf ca ef83 xf xa ea84 v72  (show 0 ≤ v72.toInt from by first | exact oz_9921a0d148 e73 e61 g6 | omega) (show v72.toInt < 7000 from by first | with_reducible rfl | with_reducible assumption | omega) _) hT (pr := []) (pcs := [wdP cs h r g tf ta pf na ma82 wa cf ca ef83 ea84 xf xa]) hw px_X.tt (px_recv hT hw 0 0 rfl rfl rfl) m13_106 m13_103 m13_105 ms_14_7 m1_21 q_Mpg_land ⟨show 0 + 1 ≤ (5 * (d + 1) + 12) from by first | with_reducible rfl | with_reducible assumption | omega, show 8 + (2 + 11) + 0 ≤ (200 * (d + 1) + 500) from by first | with_reducible rfl | with_reducible assumption | omega⟩ hl.1 rfl (Nat.le_of_ble_eq_true rfl) d_Mpg_makeStatement_192 ⟨Nat.le_of_ble_eq_true rfl, Nat.le_of_ble_eq_true rfl⟩) hw hA (fun p98 H locs hp98 hw => ?_)
        obtain ⟨ea97, rfl, e100⟩ := hp98
        replace e100 : LaU ea84 ea97 v72 (ef83 60) := e100
        have hcd := hcd.tr (LaU.cd e100 (s := (ef 60).toInt) (by omega)) (Int.le_refl _)
        replace hw : pw D A s.heap H locs [wdP cs h r g tf ta pf na ma82 wa cf ca ef83 ea97 xf xa] := hw
        refine lv_goto (tgt := 305) S.x S.b d_Mpg_makeStatement_195 (by decide) ?_
        exact px_vret S hr hlk hAe hw (Nat.le_of_ble_eq_true rfl) (Nat.le_of_ble_eq_true rfl) (⟨ma82, ef83, ea97, rfl, (show (ef 60).toInt ≤ (ef83 60).toInt from by first | exact oz_db0ccc982f e61 e87 e74 | omega), (show (ef83 60).toInt ≤ (ef 60).toInt + wt from by first | with_reducible rfl | with_reducible assumption | omega), (show CdK ea ea97 (ef 60).toInt from hcd), (show Kc na mb ma82 from hkc), (show FrL lo hi ma ma82 from hfl), (show StQ X9 (ea97 61) (ef 60).toInt (ef83 60).toInt fi [] lvq t9 (ef 64) (ef83 64) (ef 65) (ef83 65) from ((stw_if e66 e77 e89 e92 e100 (by omega) (by omega) (by omega) rfl (by omega) (by omega)).tq (by omega) (by omega) (by omega) (by omega) (by omega) (by omega))), (show StX na ma82 p0 (ef 60).toInt (ef83 60).toInt (ef 64).toInt (ef83 64).toInt (ef 65).toInt (ef83 65).toInt from ⟨fun q9 => by omega, fun q9 => by omega, fun q9 => by omega⟩)⟩) d_Mpg_makeStatement_305
      · have nc95 : ¬ z94.toInt < (0 : Int) := mt (i_lt (x := z94) (y := 0)).mpr c95
        refine lv_aload_n S.x S.b d_Mpg_makeStatement_158 rfl (lv_at hl 1 rfl) ?_
        refine lv_bipush (v := 12) S.x S.b d_Mpg_makeStatement_159 (by decide) ?_
        refine lv_iconst (v := 0) S.x S.b d_Mpg_makeStatement_161 (by decide) ?_
        refine lv_iconst (v := 0) S.x S.b d_Mpg_makeStatement_162 (by decide) ?_
        refine px_calli (pr := []) (px_runV (As := [.int 12, .int 0, .int 0]) (rest := []) S (c_mp_emit l D cs h r g tf ta pf na ma82 wa cf ca xf xa ef83 ea84 12 0 0  (show 0 ≤ (ef83 60).toInt from by first | exact oz_6501cbe7e5 e87 e74 e61 g6 | omega) (show (ef83 60).toInt < 7000 from by first | with_reducible rfl | with_reducible assumption | omega) _) hT (pr := []) (pcs := [wdP cs h r g tf ta pf na ma82 wa cf ca ef83 ea84 xf xa]) hw px_X.tt (px_recv hT hw 0 0 rfl rfl rfl) m13_86 m13_83 m13_85 ms_14_2 m1_21 q_Mpg_emit ⟨show 0 + 1 ≤ (5 * (d + 1) + 12) from by first | with_reducible rfl | with_reducible assumption | omega, show 8 + (4 + 11) + 0 ≤ (200 * (d + 1) + 500) from by first | with_reducible rfl | with_reducible assumption | omega⟩ hl.1 rfl (Nat.le_of_ble_eq_true rfl) d_Mpg_makeStatement_163 ⟨Nat.le_of_ble_eq_true rfl, Nat.le_of_ble_eq_true rfl⟩) hw hA (fun v106 p105 H locs hp105 hw => ?_)
        obtain ⟨ef103, ea104, rfl, e107, e108, e109, e110, e111⟩ := hp105
        replace e107 : v106.toInt = (ef83 60).toInt := e107
        replace e108 : (ef103 60).toInt = (ef83 60).toInt + 1 := e108
        replace e109 : (ef103 64).toInt = (ef83 64).toInt := e109
        replace e110 : (ef103 65).toInt = (ef83 65).toInt := e110
        replace e111 : EmU ea84 ea104 (ef83 60) (12 : Int32) (0 : Int32) (0 : Int32) := e111
        have hcd := hcd.tr e111.cd (by omega)
        replace hw : pw D A s.heap H locs [wdP cs h r g tf ta pf na ma82 wa cf ca ef103 ea104 xf xa] := hw
        have lv106 := Int32.le_toInt v106
        have uv106 := Int32.toInt_lt v106
        refine lv_istore_n (lv' := [(3, .int v106), (2, .int v72), (0, .ref h), (1, .int p0)]) S.x S.b d_Mpg_makeStatement_166 rfl hl (by decide) rfl (fun ls hl => ?_)
        refine lv_aload_n S.x S.b d_Mpg_makeStatement_167 rfl (lv_at hl 2 rfl) ?_
        refine lv_iload_n S.x S.b d_Mpg_makeStatement_168 rfl (lv_at hl 1 rfl) ?_
        refine px_callv (pr := []) (px_runV (As := [.int v72]) (rest := []) S (c_mp_land l D cs h r g tf ta pf na ma82 wa cf ca ef103 xf xa ea104 v72  (show 0 ≤ v72.toInt from by first | exact oz_9921a0d148 e73 e61 g6 | omega) (show v72.toInt < 7000 from by first | with_reducible rfl | with_reducible assumption | omega) _) hT (pr := []) (pcs := [wdP cs h r g tf ta pf na ma82 wa cf ca ef103 ea104 xf xa]) hw px_X.tt (px_recv hT hw 0 0 rfl rfl rfl) m13_106 m13_103 m13_105 ms_14_7 m1_21 q_Mpg_land ⟨show 0 + 1 ≤ (5 * (d + 1) + 12) from by first | with_reducible rfl | with_reducible assumption | omega, show 8 + (2 + 11) + 0 ≤ (200 * (d + 1) + 500) from by first | with_reducible rfl | with_reducible assumption | omega⟩ hl.1 rfl (Nat.le_of_ble_eq_true rfl) d_Mpg_makeStatement_169 ⟨Nat.le_of_ble_eq_true rfl, Nat.le_of_ble_eq_true rfl⟩) hw hA (fun p114 H locs hp114 hw => ?_)
        obtain ⟨ea113, rfl, e116⟩ := hp114
        replace e116 : LaU ea104 ea113 v72 (ef103 60) := e116
        have hcd := hcd.tr (LaU.cd e116 (s := (ef 60).toInt) (by omega)) (Int.le_refl _)
        replace hw : pw D A s.heap H locs [wdP cs h r g tf ta pf na ma82 wa cf ca ef103 ea113 xf xa] := hw
        refine lv_aload_n S.x S.b d_Mpg_makeStatement_172 rfl (lv_at hl 2 rfl) ?_
        refine lv_aload_n S.x S.b d_Mpg_makeStatement_173 rfl (lv_at hl 2 rfl) ?_
        refine px_get S k_Mpg hT hw 0 0 19 (v := .ref (r 19)) rfl rfl rfl (by decide) m10_5 d_Mpg_makeStatement_174 ?_
        refine lv_iload_n S.x S.b d_Mpg_makeStatement_177 rfl (lv_at hl 3 rfl) ?_
        refine px_iald S hT hw 0 15 (n := 2100) (f := (ma82 19)) rfl gp_19 (x := p0) (vp_in_iff.mpr (by constructor <;> omega)) d_Mpg_makeStatement_178 ?_
        refine lv_topi (fun z117 ez117 => ?_)
        have lz117 := Int32.le_toInt z117
        have uz117 := Int32.toInt_lt z117
        have hsk_z117 : SkB ta (tf 6).toInt na ma0 mb ca V d (pf 13).toInt m2 hi we bh t9 z117 := (by rw [ez117, hkc.g (x := p0.toNatClampNeg) (by omega)]; exact hske (by rw [← hkc.g (x := p0.toNatClampNeg) (by omega), ← ez94]; omega)); have hrs_z117 := hsk_z117.rng; have hk9_z117 := k29_r (na := na) (n := z117)
        refine px_callv (pr := []) (px_runV (As := [.int z117]) (rest := []) S (hLS ma0 mb ys ns nf m2 hi we V vl vh X9 fi lvq bh t9 h r g tf ta pf na wa cf ca xf xa ma82 ef103 ea113 z117 (show 0 ≤ (tf 5).toInt from by first | exact g0 | omega) (show (tf 5).toInt ≤ 2048 from by first | exact g1 | omega) (show (pf 13).toInt ≤ 2100 from by first | exact g2 | omega) (show (tf 6).toInt ≤ 2049 from by first | exact g3 | omega) (show (cf 38).toInt = nf from by first | exact g4 | omega) (show 0 ≤ nf from by first | exact g5 | omega) (show 0 ≤ (ef103 60).toInt from by first | exact oz_78bd7587d7 e108 e87 e74 e61 g6 | omega) (show 0 ≤ fi from by first | exact g7 | omega) (show 1 ≤ X9.tall fi from by first | exact g8 | omega) (show bh ≤ X9.tall fi from by first | exact g9 | omega) (show (ef103 60).toInt + we ≤ 7000 + k29 na z117 from by first | with_reducible rfl | with_reducible assumption | omega) htk (FnT.eq hft (by omega)) hfp hab hkc htb hcx hsk_z117 _) hT (pr := []) (pcs := [wdP cs h r g tf ta pf na ma82 wa cf ca ef103 ea113 xf xa]) hw (oX_call (P := (fun A U H => (oP A g U H))) (pr := []) oG_P hw hA hP) (px_recv hT hw 0 0 rfl rfl rfl) m13_126 m13_123 m13_125 ms_14_12 m1_21 q_Mpg_makeStatement ⟨show (5 * d + 12) + 1 ≤ (5 * (d + 1) + 12) from by first | with_reducible rfl | with_reducible assumption | omega, show 8 + (4 + 11) + (200 * d + 500) ≤ (200 * (d + 1) + 500) from by first | with_reducible rfl | with_reducible assumption | omega⟩ hl.1 rfl (Nat.le_of_ble_eq_true rfl) d_Mpg_makeStatement_179 ⟨Nat.le_of_ble_eq_true rfl, Nat.le_of_ble_eq_true rfl⟩) hw hA (fun p124 H locs hp124 hw => ?_)
        obtain ⟨ma121, ef122, ea123, rfl, e126, e127, e128, e129, e130, e131, e132⟩ := hp124
        replace e126 : (ef103 60).toInt ≤ (ef122 60).toInt := e126
        replace e127 : (ef122 60).toInt ≤ (ef103 60).toInt + we := e127
        replace e128 : CdK ea113 ea123 (ef103 60).toInt := e128
        have hcd := hcd.tr e128 (by omega)
        replace e129 : Kc na mb ma121 := e129
        have hkc := e129
        have han := hab.kc hkc
        have hts := htb.kc hkc
        replace e130 : FrL m2 hi ma82 ma121 := e130
        have hfl := hfl.tr e130 (by omega) (by omega)
        replace e131 : StQ X9 (ea123 61) (ef103 60).toInt (ef122 60).toInt fi [] lvq t9 (ef103 64) (ef122 64) (ef103 65) (ef122 65) := e131
        replace e132 : StX na ma121 z117 (ef103 60).toInt (ef122 60).toInt (ef103 64).toInt (ef122 64).toInt (ef103 65).toInt (ef122 65).toInt := e132
        replace hw : pw D A s.heap H locs [wdP cs h r g tf ta pf na ma121 wa cf ca ef122 ea123 xf xa] := hw
        refine lv_aload_n S.x S.b d_Mpg_makeStatement_182 rfl (lv_at hl 2 rfl) ?_
        refine lv_iload_n S.x S.b d_Mpg_makeStatement_183 rfl (lv_at hl 0 rfl) ?_
        refine px_callv (pr := []) (px_runV (As := [.int v106]) (rest := []) S (c_mp_land l D cs h r g tf ta pf na ma121 wa cf ca ef122 xf xa ea123 v106  (show 0 ≤ v106.toInt from by first | exact oz_2d9ae659ef e107 e87 e74 e61 g6 | omega) (show v106.toInt < 7000 from by first | with_reducible rfl | with_reducible assumption | omega) _) hT (pr := []) (pcs := [wdP cs h r g tf ta pf na ma121 wa cf ca ef122 ea123 xf xa]) hw px_X.tt (px_recv hT hw 0 0 rfl rfl rfl) m13_106 m13_103 m13_105 ms_14_7 m1_21 q_Mpg_land ⟨show 0 + 1 ≤ (5 * (d + 1) + 12) from by first | with_reducible rfl | with_reducible assumption | omega, show 8 + (2 + 11) + 0 ≤ (200 * (d + 1) + 500) from by first | with_reducible rfl | with_reducible assumption | omega⟩ hl.1 rfl (Nat.le_of_ble_eq_true rfl) d_Mpg_makeStatement_184 ⟨Nat.le_of_ble_eq_true rfl, Nat.le_of_ble_eq_true rfl⟩) hw hA (fun p135 H locs hp135 hw => ?_)
        obtain ⟨ea134, rfl, e137⟩ := hp135
        replace e137 : LaU ea123 ea134 v106 (ef122 60) := e137
        have hcd := hcd.tr (LaU.cd e137 (s := (ef 60).toInt) (by omega)) (Int.le_refl _)
        replace hw : pw D A s.heap H locs [wdP cs h r g tf ta pf na ma121 wa cf ca ef122 ea134 xf xa] := hw
        refine lv_goto (tgt := 305) S.x S.b d_Mpg_makeStatement_187 (by decide) ?_
        exact px_vret S hr hlk hAe hw (Nat.le_of_ble_eq_true rfl) (Nat.le_of_ble_eq_true rfl) (⟨ma121, ef122, ea134, rfl, (show (ef 60).toInt ≤ (ef122 60).toInt from by first | exact oz_013402b7ac e61 e126 e74 e108 e87 | omega), (show (ef122 60).toInt ≤ (ef 60).toInt + wt from by first | exact oz_081636a435 hws.2.2.2 e62 e127 e74 e88 e108 | omega), (show CdK ea ea134 (ef 60).toInt from hcd), (show Kc na mb ma121 from hkc), (show FrL lo hi ma ma121 from hfl), (show StQ X9 (ea134 61) (ef 60).toInt (ef122 60).toInt fi [] lvq t9 (ef 64) (ef122 64) (ef 65) (ef122 65) from ((stw_ie e66 e77 e89 e92 e111 e116 e128 e131 e137 (by omega) (by omega) (by omega) (by omega) (by omega) rfl (by omega) (by omega) (by omega) rfl (by omega) (by omega) (by omega)).tq (by omega) (by omega) (by omega) (by omega) (by omega) (by omega))), (show StX na ma121 p0 (ef 60).toInt (ef122 60).toInt (ef 64).toInt (ef122 64).toInt (ef 65).toInt (ef122 65).toInt from ⟨fun q9 => by omega, fun q9 => by omega, fun q9 => by omega⟩)⟩) d_Mpg_makeStatement_305
    · simp only [List.mem_cons, List.not_mem_nil, or_false] at c2
      refine lv_aload_n S.x S.b d_Mpg_makeStatement_198 rfl (lv_at hl 0 rfl) ?_
      have hk29 : k29 na p0 = 0 := if_neg (by omega)
      refine lv_iload_n S.x S.b d_Mpg_makeStatement_199 rfl (lv_at hl 1 rfl) ?_
      refine px_callv (pr := []) (px_runV (As := [.int p0]) (rest := []) S (c_mp_makeLoop l D cs ma0 mb ys ns nf d lo hi wt V vl vh X9 fi lvq bh t9 h r g tf ta pf na wa cf ca xf xa ma ef ea p0  (show 0 ≤ (tf 5).toInt from by first | exact g0 | omega) (show (tf 5).toInt ≤ 2048 from by first | exact g1 | omega) (show (pf 13).toInt ≤ 2100 from by first | exact g2 | omega) (show (tf 6).toInt ≤ 2049 from by first | exact g3 | omega) (show (cf 38).toInt = nf from by first | exact g4 | omega) (show 0 ≤ nf from by first | exact g5 | omega) (show 0 ≤ (ef 60).toInt from by first | exact g6 | omega) (show 0 ≤ fi from by first | exact g7 | omega) (show 1 ≤ X9.tall fi from by first | exact g8 | omega) (show bh ≤ X9.tall fi from by first | exact g9 | omega) (show (ef 60).toInt + wt ≤ 7000 from by first | with_reducible rfl | with_reducible assumption | omega) (show 25 ≤ (na 14 p0.toNatClampNeg).toInt from by first | with_reducible rfl | with_reducible assumption | omega) (show (na 14 p0.toNatClampNeg).toInt ≤ 27 from by first | with_reducible rfl | with_reducible assumption | omega) htk (FnT.eq hft (by omega)) hfp hab hkc htb hcx hsk_p0 hLS _) hT (pr := []) (pcs := [wdP cs h r g tf ta pf na ma wa cf ca ef ea xf xa]) hw (oX_call (P := (fun A U H => (oP A g U H))) (pr := []) oG_P hw hA hP) (px_recv hT hw 0 0 rfl rfl rfl) m13_130 m13_127 m13_129 ms_14_13 m1_21 q_Mpg_makeLoop ⟨show (5 * d + 14) + 1 ≤ (5 * (d + 1) + 12) from by first | with_reducible rfl | with_reducible assumption | omega, show 8 + (7 + 11) + (200 * d + 630) ≤ (200 * (d + 1) + 500) from by first | with_reducible rfl | with_reducible assumption | omega⟩ hl.1 rfl (Nat.le_of_ble_eq_true rfl) d_Mpg_makeStatement_200 ⟨Nat.le_of_ble_eq_true rfl, Nat.le_of_ble_eq_true rfl⟩) hw hA (fun p144 H locs hp144 hw => ?_)
      obtain ⟨ma141, ef142, ea143, rfl, e146, e147, e148, e149, e150, e151⟩ := hp144
      replace e146 : (ef 60).toInt ≤ (ef142 60).toInt := e146
      replace e147 : (ef142 60).toInt ≤ (ef 60).toInt + wt := e147
      replace e148 : CdK ea ea143 (ef 60).toInt := e148
      have hcd := hcd.tr e148 (by omega)
      replace e149 : Kc na mb ma141 := e149
      have hkc := e149
      have han := hab.kc hkc
      have hts := htb.kc hkc
      replace e150 : FrL lo hi ma ma141 := e150
      have hfl := hfl.tr e150 (by omega) (by omega)
      replace e151 : StQ X9 (ea143 61) (ef 60).toInt (ef142 60).toInt fi [] lvq t9 (ef 64) (ef142 64) (ef 65) (ef142 65) := e151
      replace hw : pw D A s.heap H locs [wdP cs h r g tf ta pf na ma141 wa cf ca ef142 ea143 xf xa] := hw
      refine lv_goto (tgt := 305) S.x S.b d_Mpg_makeStatement_203 (by decide) ?_
      exact px_vret S hr hlk hAe hw (Nat.le_of_ble_eq_true rfl) (Nat.le_of_ble_eq_true rfl) (⟨ma141, ef142, ea143, rfl, (show (ef 60).toInt ≤ (ef142 60).toInt from by first | exact e146 | omega), (show (ef142 60).toInt ≤ (ef 60).toInt + wt from by first | exact e147 | omega), (show CdK ea ea143 (ef 60).toInt from hcd), (show Kc na mb ma141 from hkc), (show FrL lo hi ma ma141 from hfl), (show StQ X9 (ea143 61) (ef 60).toInt (ef142 60).toInt fi [] lvq t9 (ef 64) (ef142 64) (ef 65) (ef142 65) from (e151.tq (by omega) (by omega) (by omega) (by omega) (by omega) (by omega))), (show StX na ma141 p0 (ef 60).toInt (ef142 60).toInt (ef 64).toInt (ef142 64).toInt (ef 65).toInt (ef142 65).toInt from ⟨fun q9 => by omega, fun q9 => by omega, fun q9 => by omega⟩)⟩) d_Mpg_makeStatement_305
    · simp only [List.mem_cons, List.not_mem_nil, or_false] at c2
      refine lv_aload_n S.x S.b d_Mpg_makeStatement_206 rfl (lv_at hl 0 rfl) ?_
      have hk29 : k29 na p0 = 0 := if_neg (by omega)
      refine lv_iload_n S.x S.b d_Mpg_makeStatement_207 rfl (lv_at hl 1 rfl) ?_
      refine px_callv (pr := []) (px_runV (As := [.int p0]) (rest := []) S (c_mp_makeSwitch l D cs ma0 mb ys ns nf d lo hi wt V vl vh X9 fi lvq bh t9 h r g tf ta pf na wa cf ca xf xa ma ef ea p0  (show 0 ≤ (tf 5).toInt from by first | exact g0 | omega) (show (tf 5).toInt ≤ 2048 from by first | exact g1 | omega) (show (pf 13).toInt ≤ 2100 from by first | exact g2 | omega) (show (tf 6).toInt ≤ 2049 from by first | exact g3 | omega) (show (cf 38).toInt = nf from by first | exact g4 | omega) (show 0 ≤ nf from by first | exact g5 | omega) (show 0 ≤ (ef 60).toInt from by first | exact g6 | omega) (show 0 ≤ fi from by first | exact g7 | omega) (show 1 ≤ X9.tall fi from by first | exact g8 | omega) (show bh ≤ X9.tall fi from by first | exact g9 | omega) (show (ef 60).toInt + wt ≤ 7000 from by first | with_reducible rfl | with_reducible assumption | omega) (show (na 14 p0.toNatClampNeg).toInt = 28 from by first | with_reducible rfl | with_reducible assumption | omega) htk (FnT.eq hft (by omega)) hfp hab hkc htb hcx hsk_p0 hLS _) hT (pr := []) (pcs := [wdP cs h r g tf ta pf na ma wa cf ca ef ea xf xa]) hw (oX_call (P := (fun A U H => (oP A g U H))) (pr := []) oG_P hw hA hP) (px_recv hT hw 0 0 rfl rfl rfl) m13_134 m13_131 m13_133 ms_14_14 m1_21 q_Mpg_makeSwitch ⟨show (5 * d + 14) + 1 ≤ (5 * (d + 1) + 12) from by first | with_reducible rfl | with_reducible assumption | omega, show 8 + (7 + 11) + (200 * d + 630) ≤ (200 * (d + 1) + 500) from by first | with_reducible rfl | with_reducible assumption | omega⟩ hl.1 rfl (Nat.le_of_ble_eq_true rfl) d_Mpg_makeStatement_208 ⟨Nat.le_of_ble_eq_true rfl, Nat.le_of_ble_eq_true rfl⟩) hw hA (fun p158 H locs hp158 hw => ?_)
      obtain ⟨ma155, ef156, ea157, rfl, e160, e161, e162, e163, e164, e165⟩ := hp158
      replace e160 : (ef 60).toInt ≤ (ef156 60).toInt := e160
      replace e161 : (ef156 60).toInt ≤ (ef 60).toInt + wt := e161
      replace e162 : CdK ea ea157 (ef 60).toInt := e162
      have hcd := hcd.tr e162 (by omega)
      replace e163 : Kc na mb ma155 := e163
      have hkc := e163
      have han := hab.kc hkc
      have hts := htb.kc hkc
      replace e164 : FrL lo hi ma ma155 := e164
      have hfl := hfl.tr e164 (by omega) (by omega)
      replace e165 : StQ X9 (ea157 61) (ef 60).toInt (ef156 60).toInt fi [] lvq t9 (ef 64) (ef156 64) (ef 65) (ef156 65) := e165
      replace hw : pw D A s.heap H locs [wdP cs h r g tf ta pf na ma155 wa cf ca ef156 ea157 xf xa] := hw
      refine lv_goto (tgt := 305) S.x S.b d_Mpg_makeStatement_211 (by decide) ?_
      exact px_vret S hr hlk hAe hw (Nat.le_of_ble_eq_true rfl) (Nat.le_of_ble_eq_true rfl) (⟨ma155, ef156, ea157, rfl, (show (ef 60).toInt ≤ (ef156 60).toInt from by first | exact e160 | omega), (show (ef156 60).toInt ≤ (ef 60).toInt + wt from by first | exact e161 | omega), (show CdK ea ea157 (ef 60).toInt from hcd), (show Kc na mb ma155 from hkc), (show FrL lo hi ma ma155 from hfl), (show StQ X9 (ea157 61) (ef 60).toInt (ef156 60).toInt fi [] lvq t9 (ef 64) (ef156 64) (ef 65) (ef156 65) from (e165.tq (by omega) (by omega) (by omega) (by omega) (by omega) (by omega))), (show StX na ma155 p0 (ef 60).toInt (ef156 60).toInt (ef 64).toInt (ef156 64).toInt (ef 65).toInt (ef156 65).toInt from ⟨fun q9 => by omega, fun q9 => by omega, fun q9 => by omega⟩)⟩) d_Mpg_makeStatement_305
    · simp only [List.mem_cons, List.not_mem_nil, or_false] at c2
      refine lv_aload_n S.x S.b d_Mpg_makeStatement_214 rfl (lv_at hl 0 rfl) ?_
      refine px_get S k_Mpg hT hw 0 0 19 (v := .ref (r 19)) rfl rfl rfl (by decide) m10_5 d_Mpg_makeStatement_215 ?_
      refine lv_iload_n S.x S.b d_Mpg_makeStatement_218 rfl (lv_at hl 1 rfl) ?_
      refine lv_aload_n S.x S.b d_Mpg_makeStatement_219 rfl (lv_at hl 0 rfl) ?_
      refine px_get S k_Mpg hT hw 0 0 60 (v := .int (ef 60)) rfl rfl rfl (by decide) m10_57 d_Mpg_makeStatement_220 ?_
      refine px_iast S hT hw 0 15 (n := 2100) (f := (ma 19)) (x := p0) (y := (ef 60)) rfl gp_19 (vp_in_iff.mpr (by constructor <;> omega)) d_Mpg_makeStatement_223 (w' := wdP cs h r g tf ta pf na (va_up ma 19 (upd (ma 19) p0.toNatClampNeg (ef 60))) wa cf ca ef ea xf xa) (ps' := [wdP cs h r g tf ta pf na (va_up ma 19 (upd (ma 19) p0.toNatClampNeg (ef 60))) wa cf ca ef ea xf xa]) sp_19 rfl (fun H locs hw => ?_)
      obtain ⟨ma166, hu_ma166⟩ : ∃ y : Nat → Nat → Int32, y = va_up ma 19 (upd (ma 19) p0.toNatClampNeg (ef 60)) := ⟨_, rfl⟩; have hw : pw D A s.heap _ _ [wdP cs h r g tf ta pf na ma166 wa cf ca ef ea xf xa] := (by rw [hu_ma166]; exact hw); have hkc := hkc.up hu_ma166 (by omega); have hfl := hfl.tr (FrL.up (l := lo) (h := hi) hu_ma166 (by omega) (by omega) (by omega)) (Int.le_refl _) (Int.le_refl _); have hlab : (ma166 19 p0.toNatClampNeg).toInt = (ef 60).toInt := (by rw [hu_ma166, va_up_s, pk_us])
      refine lv_goto (tgt := 305) S.x S.b d_Mpg_makeStatement_224 (by decide) ?_
      exact px_vret S hr hlk hAe hw (Nat.le_of_ble_eq_true rfl) (Nat.le_of_ble_eq_true rfl) (⟨ma166, ef, ea, rfl, (show (ef 60).toInt ≤ (ef 60).toInt from by first | exact oz_1cb5f934a5 | omega), (show (ef 60).toInt ≤ (ef 60).toInt + wt from by first | with_reducible rfl | with_reducible assumption | omega), (show CdK ea ea (ef 60).toInt from hcd), (show Kc na mb ma166 from hkc), (show FrL lo hi ma ma166 from hfl), (show StQ X9 (ea 61) (ef 60).toInt (ef 60).toInt fi [] lvq t9 (ef 64) (ef 64) (ef 65) (ef 65) from ⟨_, stk_0 (by omega) (by omega) (by omega) (by omega)⟩), (show StX na ma166 p0 (ef 60).toInt (ef 60).toInt (ef 64).toInt (ef 64).toInt (ef 65).toInt (ef 65).toInt from ⟨fun q9 => by omega, fun q9 => by omega, fun q9 => by omega⟩)⟩) d_Mpg_makeStatement_305
    · simp only [List.mem_cons, List.not_mem_nil, or_false] at c2
      refine lv_aload_n S.x S.b d_Mpg_makeStatement_227 rfl (lv_at hl 0 rfl) ?_
      have hk29 : k29 na p0 = 0 := if_neg (by omega)
      have hbc := SkB.f31 htb hsk_p0 (by omega)
      refine lv_aload_n S.x S.b d_Mpg_makeStatement_228 rfl (lv_at hl 0 rfl) ?_
      refine lv_bipush (v := 12) S.x S.b d_Mpg_makeStatement_229 (by decide) ?_
      refine lv_aload_n S.x S.b d_Mpg_makeStatement_231 rfl (lv_at hl 0 rfl) ?_
      refine px_get S k_Mpg hT hw 0 0 64 (v := .int (ef 64)) rfl rfl rfl (by decide) m10_64 d_Mpg_makeStatement_232 ?_
      refine lv_iconst (v := 0) S.x S.b d_Mpg_makeStatement_235 (by decide) ?_
      refine px_calli (pr := []) (px_runV (As := [.int 12, .int (ef 64), .int 0]) (rest := [.ref h]) S (c_mp_emit l D cs h r g tf ta pf na ma wa cf ca xf xa ef ea 12 (ef 64) 0  (show 0 ≤ (ef 60).toInt from by first | exact g6 | omega) (show (ef 60).toInt < 7000 from by first | with_reducible rfl | with_reducible assumption | omega) _) hT (pr := []) (pcs := [wdP cs h r g tf ta pf na ma wa cf ca ef ea xf xa]) hw px_X.tt (px_recv hT hw 0 0 rfl rfl rfl) m13_86 m13_83 m13_85 ms_14_2 m1_21 q_Mpg_emit ⟨show 0 + 1 ≤ (5 * (d + 1) + 12) from by first | with_reducible rfl | with_reducible assumption | omega, show 8 + (4 + 11) + 0 ≤ (200 * (d + 1) + 500) from by first | with_reducible rfl | with_reducible assumption | omega⟩ hl.1 rfl (Nat.le_of_ble_eq_true rfl) d_Mpg_makeStatement_236 ⟨Nat.le_of_ble_eq_true rfl, Nat.le_of_ble_eq_true rfl⟩) hw hA (fun v172 p171 H locs hp171 hw => ?_)
      obtain ⟨ef169, ea170, rfl, e173, e174, e175, e176, e177⟩ := hp171
      replace e173 : v172.toInt = (ef 60).toInt := e173
      replace e174 : (ef169 60).toInt = (ef 60).toInt + 1 := e174
      replace e175 : (ef169 64).toInt = (ef 64).toInt := e175
      replace e176 : (ef169 65).toInt = (ef 65).toInt := e176
      replace e177 : EmU ea ea170 (ef 60) (12 : Int32) (ef 64) (0 : Int32) := e177
      have hcd := hcd.tr e177.cd (by omega)
      replace hw : pw D A s.heap H locs [wdP cs h r g tf ta pf na ma wa cf ca ef169 ea170 xf xa] := hw
      have lv172 := Int32.le_toInt v172
      have uv172 := Int32.toInt_lt v172
      refine px_put S k_Mpg hT hw 0 0 64 rfl rfl (by decide) m10_64 rfl rfl rfl (Nat.le_of_ble_eq_true rfl) d_Mpg_makeStatement_239 (w' := wdP cs h r g tf ta pf na ma wa cf ca (upd ef169 64 v172) ea170 xf xa) (ps' := [wdP cs h r g tf ta pf na ma wa cf ca (upd ef169 64 v172) ea170 xf xa]) rfl rfl (fun H locs hw => ?_)
      obtain ⟨ef178, hu_ef178⟩ : ∃ y : Nat → Int32, y = upd ef169 64 v172 := ⟨_, rfl⟩; have hw : pw D A s.heap _ _ [wdP cs h r g tf ta pf na ma wa cf ca ef178 ea170 xf xa] := (by rw [hu_ef178]; exact hw); have hn60_ef178 : (ef178 60).toInt = (ef169 60).toInt := (by rw [hu_ef178, pk_un (by decide)]); have hn64_ef178 : (ef178 64).toInt = v172.toInt := (by rw [hu_ef178, pk_us]); have hn65_ef178 : (ef178 65).toInt = (ef169 65).toInt := (by rw [hu_ef178, pk_un (by decide)])
      refine lv_goto (tgt := 305) S.x S.b d_Mpg_makeStatement_242 (by decide) ?_
      exact px_vret S hr hlk hAe hw (Nat.le_of_ble_eq_true rfl) (Nat.le_of_ble_eq_true rfl) (⟨ma, ef178, ea170, rfl, (show (ef 60).toInt ≤ (ef178 60).toInt from by first | exact oz_131e74bd78 e174 hn60_ef178 | omega), (show (ef178 60).toInt ≤ (ef 60).toInt + wt from by first | exact oz_43c707d433 hbc.1 e174 hn60_ef178 | omega), (show CdK ea ea170 (ef 60).toInt from hcd), (show Kc na mb ma from hkc), (show FrL lo hi ma ma from hfl), (show StQ X9 (ea170 61) (ef 60).toInt (ef178 60).toInt fi [] lvq t9 (ef 64) (ef178 64) (ef 65) (ef178 65) from (stw_br e177 (by omega) (by omega) (by omega) rfl (by omega) (by omega) (by omega) (hbc.2.1 (by omega)) (by omega))), (show StX na ma p0 (ef 60).toInt (ef178 60).toInt (ef 64).toInt (ef178 64).toInt (ef 65).toInt (ef178 65).toInt from ⟨fun q9 => by omega, fun q9 => by omega, fun q9 => by omega⟩)⟩) d_Mpg_makeStatement_305
    · simp only [List.mem_cons, List.not_mem_nil, or_false] at c2
      refine lv_aload_n S.x S.b d_Mpg_makeStatement_245 rfl (lv_at hl 0 rfl) ?_
      have hk29 : k29 na p0 = 0 := if_neg (by omega)
      have hbc := SkB.f31 htb hsk_p0 (by omega)
      refine lv_aload_n S.x S.b d_Mpg_makeStatement_246 rfl (lv_at hl 0 rfl) ?_
      refine lv_bipush (v := 12) S.x S.b d_Mpg_makeStatement_247 (by decide) ?_
      refine lv_aload_n S.x S.b d_Mpg_makeStatement_249 rfl (lv_at hl 0 rfl) ?_
      refine px_get S k_Mpg hT hw 0 0 65 (v := .int (ef 65)) rfl rfl rfl (by decide) m10_65 d_Mpg_makeStatement_250 ?_
      refine lv_iconst (v := 0) S.x S.b d_Mpg_makeStatement_253 (by decide) ?_
      refine px_calli (pr := []) (px_runV (As := [.int 12, .int (ef 65), .int 0]) (rest := [.ref h]) S (c_mp_emit l D cs h r g tf ta pf na ma wa cf ca xf xa ef ea 12 (ef 65) 0  (show 0 ≤ (ef 60).toInt from by first | exact g6 | omega) (show (ef 60).toInt < 7000 from by first | with_reducible rfl | with_reducible assumption | omega) _) hT (pr := []) (pcs := [wdP cs h r g tf ta pf na ma wa cf ca ef ea xf xa]) hw px_X.tt (px_recv hT hw 0 0 rfl rfl rfl) m13_86 m13_83 m13_85 ms_14_2 m1_21 q_Mpg_emit ⟨show 0 + 1 ≤ (5 * (d + 1) + 12) from by first | with_reducible rfl | with_reducible assumption | omega, show 8 + (4 + 11) + 0 ≤ (200 * (d + 1) + 500) from by first | with_reducible rfl | with_reducible assumption | omega⟩ hl.1 rfl (Nat.le_of_ble_eq_true rfl) d_Mpg_makeStatement_254 ⟨Nat.le_of_ble_eq_true rfl, Nat.le_of_ble_eq_true rfl⟩) hw hA (fun v184 p183 H locs hp183 hw => ?_)
      obtain ⟨ef181, ea182, rfl, e185, e186, e187, e188, e189⟩ := hp183
      replace e185 : v184.toInt = (ef 60).toInt := e185
      replace e186 : (ef181 60).toInt = (ef 60).toInt + 1 := e186
      replace e187 : (ef181 64).toInt = (ef 64).toInt := e187
      replace e188 : (ef181 65).toInt = (ef 65).toInt := e188
      replace e189 : EmU ea ea182 (ef 60) (12 : Int32) (ef 65) (0 : Int32) := e189
      have hcd := hcd.tr e189.cd (by omega)
      replace hw : pw D A s.heap H locs [wdP cs h r g tf ta pf na ma wa cf ca ef181 ea182 xf xa] := hw
      have lv184 := Int32.le_toInt v184
      have uv184 := Int32.toInt_lt v184
      refine px_put S k_Mpg hT hw 0 0 65 rfl rfl (by decide) m10_65 rfl rfl rfl (Nat.le_of_ble_eq_true rfl) d_Mpg_makeStatement_257 (w' := wdP cs h r g tf ta pf na ma wa cf ca (upd ef181 65 v184) ea182 xf xa) (ps' := [wdP cs h r g tf ta pf na ma wa cf ca (upd ef181 65 v184) ea182 xf xa]) rfl rfl (fun H locs hw => ?_)
      obtain ⟨ef190, hu_ef190⟩ : ∃ y : Nat → Int32, y = upd ef181 65 v184 := ⟨_, rfl⟩; have hw : pw D A s.heap _ _ [wdP cs h r g tf ta pf na ma wa cf ca ef190 ea182 xf xa] := (by rw [hu_ef190]; exact hw); have hn60_ef190 : (ef190 60).toInt = (ef181 60).toInt := (by rw [hu_ef190, pk_un (by decide)]); have hn64_ef190 : (ef190 64).toInt = (ef181 64).toInt := (by rw [hu_ef190, pk_un (by decide)]); have hn65_ef190 : (ef190 65).toInt = v184.toInt := (by rw [hu_ef190, pk_us])
      refine lv_goto (tgt := 305) S.x S.b d_Mpg_makeStatement_260 (by decide) ?_
      exact px_vret S hr hlk hAe hw (Nat.le_of_ble_eq_true rfl) (Nat.le_of_ble_eq_true rfl) (⟨ma, ef190, ea182, rfl, (show (ef 60).toInt ≤ (ef190 60).toInt from by first | exact oz_131e74bd78 e186 hn60_ef190 | omega), (show (ef190 60).toInt ≤ (ef 60).toInt + wt from by first | exact oz_43c707d433 hbc.1 e186 hn60_ef190 | omega), (show CdK ea ea182 (ef 60).toInt from hcd), (show Kc na mb ma from hkc), (show FrL lo hi ma ma from hfl), (show StQ X9 (ea182 61) (ef 60).toInt (ef190 60).toInt fi [] lvq t9 (ef 64) (ef190 64) (ef 65) (ef190 65) from (stw_co e189 (by omega) (by omega) (by omega) rfl (by omega) (by omega) (by omega) (by have := hbc.2.2 (by omega); omega) (by omega))), (show StX na ma p0 (ef 60).toInt (ef190 60).toInt (ef 64).toInt (ef190 64).toInt (ef 65).toInt (ef190 65).toInt from ⟨fun q9 => by omega, fun q9 => by omega, fun q9 => by omega⟩)⟩) d_Mpg_makeStatement_305
    · simp only [List.mem_cons, List.not_mem_nil, or_false] at c2
      refine lv_aload_n S.x S.b d_Mpg_makeStatement_263 rfl (lv_at hl 0 rfl) ?_
      have hk29 : k29 na p0 = 0 := if_neg (by omega)
      refine px_get S k_Mpg hT hw 0 0 17 (v := .ref (r 17)) rfl rfl rfl (by decide) m10_1 d_Mpg_makeStatement_264 ?_
      refine lv_iload_n S.x S.b d_Mpg_makeStatement_267 rfl (lv_at hl 1 rfl) ?_
      refine px_iald S hT hw 0 13 (n := 2100) (f := (na 17)) rfl gp_17 (x := p0) (vp_in_iff.mpr (by constructor <;> omega)) d_Mpg_makeStatement_268 ?_
      refine lv_topi (fun z191 ez191 => ?_)
      have lz191 := Int32.le_toInt z191
      have uz191 := Int32.toInt_lt z191
      have hrt := SkB.f33 htb hsk_p0 (by omega) ez191
      refine lv_if_lt (tgt := 285) S.x S.b d_Mpg_makeStatement_269 (by decide) (fun c192 => ?_) (fun c192 => ?_)
      · have nc192 : z191.toInt < (0 : Int) := (i_lt (x := z191) (y := 0)).mp c192
        refine lv_aload_n S.x S.b d_Mpg_makeStatement_285 rfl (lv_at hl 0 rfl) ?_
        refine lv_iconst (v := 1) S.x S.b d_Mpg_makeStatement_286 (by decide) ?_
        refine lv_iconst (v := 0) S.x S.b d_Mpg_makeStatement_287 (by decide) ?_
        refine lv_iconst (v := 0) S.x S.b d_Mpg_makeStatement_288 (by decide) ?_
        refine px_calli (pr := []) (px_runV (As := [.int 1, .int 0, .int 0]) (rest := []) S (c_mp_emit l D cs h r g tf ta pf na ma wa cf ca xf xa ef ea 1 0 0  (show 0 ≤ (ef 60).toInt from by first | exact g6 | omega) (show (ef 60).toInt < 7000 from by first | with_reducible rfl | with_reducible assumption | omega) _) hT (pr := []) (pcs := [wdP cs h r g tf ta pf na ma wa cf ca ef ea xf xa]) hw px_X.tt (px_recv hT hw 0 0 rfl rfl rfl) m13_86 m13_83 m13_85 ms_14_2 m1_21 q_Mpg_emit ⟨show 0 + 1 ≤ (5 * (d + 1) + 12) from by first | with_reducible rfl | with_reducible assumption | omega, show 8 + (4 + 11) + 0 ≤ (200 * (d + 1) + 500) from by first | with_reducible rfl | with_reducible assumption | omega⟩ hl.1 rfl (Nat.le_of_ble_eq_true rfl) d_Mpg_makeStatement_289 ⟨Nat.le_of_ble_eq_true rfl, Nat.le_of_ble_eq_true rfl⟩) hw hA (fun v198 p197 H locs hp197 hw => ?_)
        obtain ⟨ef195, ea196, rfl, e199, e200, e201, e202, e203⟩ := hp197
        replace e199 : v198.toInt = (ef 60).toInt := e199
        replace e200 : (ef195 60).toInt = (ef 60).toInt + 1 := e200
        replace e201 : (ef195 64).toInt = (ef 64).toInt := e201
        replace e202 : (ef195 65).toInt = (ef 65).toInt := e202
        replace e203 : EmU ea ea196 (ef 60) (1 : Int32) (0 : Int32) (0 : Int32) := e203
        have hcd := hcd.tr e203.cd (by omega)
        replace hw : pw D A s.heap H locs [wdP cs h r g tf ta pf na ma wa cf ca ef195 ea196 xf xa] := hw
        have lv198 := Int32.le_toInt v198
        have uv198 := Int32.toInt_lt v198
        refine lv_pop S.x S.b d_Mpg_makeStatement_292 rfl ?_
        refine lv_aload_n S.x S.b d_Mpg_makeStatement_293 rfl (lv_at hl 0 rfl) ?_
        refine lv_bipush (v := 18) S.x S.b d_Mpg_makeStatement_294 (by decide) ?_
        refine lv_iconst (v := 0) S.x S.b d_Mpg_makeStatement_296 (by decide) ?_
        refine lv_iconst (v := 0) S.x S.b d_Mpg_makeStatement_297 (by decide) ?_
        refine px_calli (pr := []) (px_runV (As := [.int 18, .int 0, .int 0]) (rest := []) S (c_mp_emit l D cs h r g tf ta pf na ma wa cf ca xf xa ef195 ea196 18 0 0  (show 0 ≤ (ef195 60).toInt from by first | exact oz_ae613611c0 e200 g6 | omega) (show (ef195 60).toInt < 7000 from by first | with_reducible rfl | with_reducible assumption | omega) _) hT (pr := []) (pcs := [wdP cs h r g tf ta pf na ma wa cf ca ef195 ea196 xf xa]) hw px_X.tt (px_recv hT hw 0 0 rfl rfl rfl) m13_86 m13_83 m13_85 ms_14_2 m1_21 q_Mpg_emit ⟨show 0 + 1 ≤ (5 * (d + 1) + 12) from by first | with_reducible rfl | with_reducible assumption | omega, show 8 + (4 + 11) + 0 ≤ (200 * (d + 1) + 500) from by first | with_reducible rfl | with_reducible assumption | omega⟩ hl.1 rfl (Nat.le_of_ble_eq_true rfl) d_Mpg_makeStatement_298 ⟨Nat.le_of_ble_eq_true rfl, Nat.le_of_ble_eq_true rfl⟩) hw hA (fun v209 p208 H locs hp208 hw => ?_)
        obtain ⟨ef206, ea207, rfl, e210, e211, e212, e213, e214⟩ := hp208
        replace e210 : v209.toInt = (ef195 60).toInt := e210
        replace e211 : (ef206 60).toInt = (ef195 60).toInt + 1 := e211
        replace e212 : (ef206 64).toInt = (ef195 64).toInt := e212
        replace e213 : (ef206 65).toInt = (ef195 65).toInt := e213
        replace e214 : EmU ea196 ea207 (ef195 60) (18 : Int32) (0 : Int32) (0 : Int32) := e214
        have hcd := hcd.tr e214.cd (by omega)
        replace hw : pw D A s.heap H locs [wdP cs h r g tf ta pf na ma wa cf ca ef206 ea207 xf xa] := hw
        have lv209 := Int32.le_toInt v209
        have uv209 := Int32.toInt_lt v209
        refine lv_pop S.x S.b d_Mpg_makeStatement_301 rfl ?_
        refine lv_goto (tgt := 305) S.x S.b d_Mpg_makeStatement_302 (by decide) ?_
        exact px_vret S hr hlk hAe hw (Nat.le_of_ble_eq_true rfl) (Nat.le_of_ble_eq_true rfl) (⟨ma, ef206, ea207, rfl, (show (ef 60).toInt ≤ (ef206 60).toInt from by first | exact oz_66e60bda0e e200 e211 | omega), (show (ef206 60).toInt ≤ (ef 60).toInt + wt from by first | exact oz_f500e11f6a hrt.1 e200 e211 | omega), (show CdK ea ea207 (ef 60).toInt from hcd), (show Kc na mb ma from hkc), (show FrL lo hi ma ma from hfl), (show StQ X9 (ea207 61) (ef 60).toInt (ef206 60).toInt fi [] lvq t9 (ef 64) (ef206 64) (ef 65) (ef206 65) from (stw_ret (SgQ.em (sgq_0 (s := (ef 60).toInt) (by omega)) e203 (by omega) rfl (by omega) (.push [] rfl)) e214 (by omega) (by omega) rfl (by omega) (by omega) (by omega) (by omega))), (show StX na ma p0 (ef 60).toInt (ef206 60).toInt (ef 64).toInt (ef206 64).toInt (ef 65).toInt (ef206 65).toInt from ⟨fun q9 => by omega, fun q9 => by omega, fun q9 => by omega⟩)⟩) d_Mpg_makeStatement_305
      · have nc192 : ¬ z191.toInt < (0 : Int) := mt (i_lt (x := z191) (y := 0)).mpr c192
        refine lv_aload_n S.x S.b d_Mpg_makeStatement_272 rfl (lv_at hl 0 rfl) ?_
        refine lv_aload_n S.x S.b d_Mpg_makeStatement_273 rfl (lv_at hl 0 rfl) ?_
        refine px_get S k_Mpg hT hw 0 0 17 (v := .ref (r 17)) rfl rfl rfl (by decide) m10_1 d_Mpg_makeStatement_274 ?_
        refine lv_iload_n S.x S.b d_Mpg_makeStatement_277 rfl (lv_at hl 1 rfl) ?_
        refine px_iald S hT hw 0 13 (n := 2100) (f := (na 17)) rfl gp_17 (x := p0) (vp_in_iff.mpr (by constructor <;> omega)) d_Mpg_makeStatement_278 ?_
        refine lv_topi (fun z215 ez215 => ?_)
        have lz215 := Int32.le_toInt z215
        have uz215 := Int32.toInt_lt z215
        have hmk_z215 : MkB ta (tf 6).toInt na ma0 ma ca (V1 V) d (pf 13).toInt (wt - 2) bh z215 := (by rw [ez215]; exact ((SkB.f33 htb hsk_p0 (by omega) rfl).2 (by rw [← ez191]; omega)).kc hkc); have hec_z215 := hmk_z215.ec; have hrg_z215 := EcV.rng hec_z215; have hnn_z215 := hmk_z215.nn
        refine px_callv (pr := []) (px_runV (As := [.int z215]) (rest := []) S (c_S_make l D cs ma0 ys ns nf d (wt - 2) (V1 V) vl vh X9 fi [] lvq bh h r g tf ta pf na ma wa cf ca xf xa ef ea z215  (show (pf 13).toInt ≤ 2100 from by first | exact g2 | omega) (show (tf 6).toInt ≤ 2049 from by first | exact g3 | omega) (show (cf 38).toInt = nf from by first | exact g4 | omega) (show 0 ≤ nf from by first | exact g5 | omega) (show 0 ≤ (ef 60).toInt from by first | exact g6 | omega) (show (ef 60).toInt + (wt - 2) ≤ 7000 from by first | with_reducible rfl | with_reducible assumption | omega) (show ([].length : Int) + bh ≤ X9.tall fi from by first | with_reducible rfl | with_reducible assumption | omega) htk (FnT.eq hft (by omega)) hfp han hts hcx hmk_z215 _) hT (pr := []) (pcs := [wdP cs h r g tf ta pf na ma wa cf ca ef ea xf xa]) hw (oX_call (P := (fun A U H => (oP A g U H))) (pr := []) oG_P hw hA hP) (px_recv hT hw 0 0 rfl rfl rfl) m13_90 m13_87 m13_89 ms_14_3 m1_21 q_Mpg_make2 ⟨show (2 * d + 10) + 1 ≤ (5 * (d + 1) + 12) from by first | with_reducible rfl | with_reducible assumption | omega, show 8 + (8 + 11) + (120 * d + 320) ≤ (200 * (d + 1) + 500) from by first | with_reducible rfl | with_reducible assumption | omega⟩ hl.1 rfl (Nat.le_of_ble_eq_true rfl) d_Mpg_makeStatement_279 ⟨Nat.le_of_ble_eq_true rfl, Nat.le_of_ble_eq_true rfl⟩) hw hA (fun p220 H locs hp220 hw => ?_)
        obtain ⟨ef218, ea219, rfl, e222, e223, e224, e225, e226, e227⟩ := hp220
        replace e222 : (ef 60).toInt ≤ (ef218 60).toInt := e222
        replace e223 : (ef218 60).toInt ≤ (ef 60).toInt + (wt - 2) := e223
        replace e224 : (ef218 64).toInt = (ef 64).toInt := e224
        replace e225 : (ef218 65).toInt = (ef 65).toInt := e225
        replace e226 : CdK ea ea219 (ef 60).toInt := e226
        have hcd := hcd.tr e226 (by omega)
        replace e227 : SgQ X9 (ea219 61) (ef 60).toInt (ef218 60).toInt fi [] (0 :: []) lvq := e227
        replace hw : pw D A s.heap H locs [wdP cs h r g tf ta pf na ma wa cf ca ef218 ea219 xf xa] := hw
        refine lv_goto (tgt := 293) S.x S.b d_Mpg_makeStatement_282 (by decide) ?_
        refine lv_aload_n S.x S.b d_Mpg_makeStatement_293 rfl (lv_at hl 0 rfl) ?_
        refine lv_bipush (v := 18) S.x S.b d_Mpg_makeStatement_294 (by decide) ?_
        refine lv_iconst (v := 0) S.x S.b d_Mpg_makeStatement_296 (by decide) ?_
        refine lv_iconst (v := 0) S.x S.b d_Mpg_makeStatement_297 (by decide) ?_
        refine px_calli (pr := []) (px_runV (As := [.int 18, .int 0, .int 0]) (rest := []) S (c_mp_emit l D cs h r g tf ta pf na ma wa cf ca xf xa ef218 ea219 18 0 0  (show 0 ≤ (ef218 60).toInt from by first | exact oz_16d7fa9f32 e222 g6 | omega) (show (ef218 60).toInt < 7000 from by first | with_reducible rfl | with_reducible assumption | omega) _) hT (pr := []) (pcs := [wdP cs h r g tf ta pf na ma wa cf ca ef218 ea219 xf xa]) hw px_X.tt (px_recv hT hw 0 0 rfl rfl rfl) m13_86 m13_83 m13_85 ms_14_2 m1_21 q_Mpg_emit ⟨show 0 + 1 ≤ (5 * (d + 1) + 12) from by first | with_reducible rfl | with_reducible assumption | omega, show 8 + (4 + 11) + 0 ≤ (200 * (d + 1) + 500) from by first | with_reducible rfl | with_reducible assumption | omega⟩ hl.1 rfl (Nat.le_of_ble_eq_true rfl) d_Mpg_makeStatement_298 ⟨Nat.le_of_ble_eq_true rfl, Nat.le_of_ble_eq_true rfl⟩) hw hA (fun v233 p232 H locs hp232 hw => ?_)
        obtain ⟨ef230, ea231, rfl, e234, e235, e236, e237, e238⟩ := hp232
        replace e234 : v233.toInt = (ef218 60).toInt := e234
        replace e235 : (ef230 60).toInt = (ef218 60).toInt + 1 := e235
        replace e236 : (ef230 64).toInt = (ef218 64).toInt := e236
        replace e237 : (ef230 65).toInt = (ef218 65).toInt := e237
        replace e238 : EmU ea219 ea231 (ef218 60) (18 : Int32) (0 : Int32) (0 : Int32) := e238
        have hcd := hcd.tr e238.cd (by omega)
        replace hw : pw D A s.heap H locs [wdP cs h r g tf ta pf na ma wa cf ca ef230 ea231 xf xa] := hw
        have lv233 := Int32.le_toInt v233
        have uv233 := Int32.toInt_lt v233
        refine lv_pop S.x S.b d_Mpg_makeStatement_301 rfl ?_
        refine lv_goto (tgt := 305) S.x S.b d_Mpg_makeStatement_302 (by decide) ?_
        exact px_vret S hr hlk hAe hw (Nat.le_of_ble_eq_true rfl) (Nat.le_of_ble_eq_true rfl) (⟨ma, ef230, ea231, rfl, (show (ef 60).toInt ≤ (ef230 60).toInt from by first | exact oz_887c409de9 e222 e235 | omega), (show (ef230 60).toInt ≤ (ef 60).toInt + wt from by first | exact oz_d786469a3b e223 e235 | omega), (show CdK ea ea231 (ef 60).toInt from hcd), (show Kc na mb ma from hkc), (show FrL lo hi ma ma from hfl), (show StQ X9 (ea231 61) (ef 60).toInt (ef230 60).toInt fi [] lvq t9 (ef 64) (ef230 64) (ef 65) (ef230 65) from (stw_ret e227 e238 (by omega) (by omega) rfl (by omega) (by omega) (by omega) (by omega))), (show StX na ma p0 (ef 60).toInt (ef230 60).toInt (ef 64).toInt (ef230 64).toInt (ef 65).toInt (ef230 65).toInt from ⟨fun q9 => by omega, fun q9 => by omega, fun q9 => by omega⟩)⟩) d_Mpg_makeStatement_305
theorem stkc_all (l : Launch) (D : va_G) (cs : Nat → ClassId) : ∀ d : Nat, StkC l D cs d := by
  intro d
  induction d with
  | zero => intro ma0 mb ys ns nf lo hi wt V vl vh X9 fi lvq bh t9 h r g tf ta pf na wa cf ca xf xa ma ef ea p0 g0 g1 g2 g3 g4 g5 g6 g7 g8 g9 g10 htk hft hfp hab hkc htb hcx hsk; exact (skb_0 hsk).elim
  | succ d ih => intro ma0 mb ys ns nf lo hi wt V vl vh X9 fi lvq bh t9 h r g tf ta pf na wa cf ca xf xa ma ef ea p0 g0 g1 g2 g3 g4 g5 g6 g7 g8 g9 g10 htk hft hfp hab hkc htb hcx hsk; exact c_mp_st1 l D cs ma0 mb ys ns nf d lo hi wt V vl vh X9 fi lvq bh t9 h r g tf ta pf na wa cf ca xf xa ma ef ea p0 g0 g1 g2 g3 g4 g5 g6 g7 g8 g9 g10 htk hft hfp hab hkc htb hcx hsk ih
