theorem m12_202 : Cond.methodLink "HomeSystemModel$Program" 645 ⟨"HomeSystemModel$Program", "checkBlock", "(I)V"⟩ ∈ AL := AL_12 (List.mem_of_getElem? (i := 202) rfl) rfl
theorem m12_205 : Cond.code ⟨"HomeSystemModel$Program", "checkBlock", "(I)V"⟩ prog_16_method_90_code 4 (Option.none : Option Jvm.ClassFile.FieldType) ∈ AL := AL_12 (List.mem_of_getElem? (i := 205) rfl) rfl
theorem ms_12_4 : Cond.selects "HomeSystemModel$Program" ⟨"HomeSystemModel$Program", "checkBlock", "(I)V"⟩ ⟨"HomeSystemModel$Program", "checkBlock", "(I)V"⟩ ∈ AL := AL_p (q := (⟨"HomeSystemModel$Program", "checkBlock", "(I)V"⟩, 69)) (by unfold lw_privs; exact List.mem_append_right _ (List.mem_append_right _ (List.mem_append_right _ (List.mem_append_right _ (List.mem_append_right _ (List.mem_append_right _ (List.mem_append_right _ (List.mem_append_right _ (List.mem_append_right _ (List.mem_append_right _ (List.mem_append_right _ (List.mem_append_left _ (List.mem_of_getElem? (i := 4) rfl)))))))))))))
theorem m12_204 : Cond.instanceMethod ⟨"HomeSystemModel$Program", "checkBlock", "(I)V"⟩ ∈ AL := AL_12 (List.mem_of_getElem? (i := 204) rfl) rfl
theorem m13_26 : Cond.methodLink "HomeSystemModel$Program" 651 ⟨"HomeSystemModel$Program", "declare", "(IZ)V"⟩ ∈ AL := AL_13 (List.mem_of_getElem? (i := 26) rfl) rfl
theorem m13_29 : Cond.code ⟨"HomeSystemModel$Program", "declare", "(IZ)V"⟩ prog_16_method_86_code 5 (Option.none : Option Jvm.ClassFile.FieldType) ∈ AL := AL_13 (List.mem_of_getElem? (i := 29) rfl) rfl
theorem ms_13_4 : Cond.selects "HomeSystemModel$Program" ⟨"HomeSystemModel$Program", "declare", "(IZ)V"⟩ ⟨"HomeSystemModel$Program", "declare", "(IZ)V"⟩ ∈ AL := AL_p (q := (⟨"HomeSystemModel$Program", "declare", "(IZ)V"⟩, 69)) (by unfold lw_privs; exact List.mem_append_right _ (List.mem_append_right _ (List.mem_append_right _ (List.mem_append_right _ (List.mem_append_right _ (List.mem_append_right _ (List.mem_append_right _ (List.mem_append_right _ (List.mem_append_right _ (List.mem_append_right _ (List.mem_append_right _ (List.mem_append_right _ (List.mem_append_left _ (List.mem_of_getElem? (i := 4) rfl))))))))))))))
theorem m13_28 : Cond.instanceMethod ⟨"HomeSystemModel$Program", "declare", "(IZ)V"⟩ ∈ AL := AL_13 (List.mem_of_getElem? (i := 28) rfl) rfl
theorem m13_38 : Cond.methodLink "HomeSystemModel$Program" 658 ⟨"HomeSystemModel$Program", "checkFor", "(I)V"⟩ ∈ AL := AL_13 (List.mem_of_getElem? (i := 38) rfl) rfl
theorem m13_41 : Cond.code ⟨"HomeSystemModel$Program", "checkFor", "(I)V"⟩ prog_16_method_94_code 4 (Option.none : Option Jvm.ClassFile.FieldType) ∈ AL := AL_13 (List.mem_of_getElem? (i := 41) rfl) rfl
theorem ms_13_7 : Cond.selects "HomeSystemModel$Program" ⟨"HomeSystemModel$Program", "checkFor", "(I)V"⟩ ⟨"HomeSystemModel$Program", "checkFor", "(I)V"⟩ ∈ AL := AL_p (q := (⟨"HomeSystemModel$Program", "checkFor", "(I)V"⟩, 69)) (by unfold lw_privs; exact List.mem_append_right _ (List.mem_append_right _ (List.mem_append_right _ (List.mem_append_right _ (List.mem_append_right _ (List.mem_append_right _ (List.mem_append_right _ (List.mem_append_right _ (List.mem_append_right _ (List.mem_append_right _ (List.mem_append_right _ (List.mem_append_right _ (List.mem_append_left _ (List.mem_of_getElem? (i := 7) rfl))))))))))))))
theorem m13_40 : Cond.instanceMethod ⟨"HomeSystemModel$Program", "checkFor", "(I)V"⟩ ∈ AL := AL_13 (List.mem_of_getElem? (i := 40) rfl) rfl
theorem m13_42 : Cond.methodLink "HomeSystemModel$Program" 661 ⟨"HomeSystemModel$Program", "checkSwitch", "(I)V"⟩ ∈ AL := AL_13 (List.mem_of_getElem? (i := 42) rfl) rfl
theorem m13_45 : Cond.code ⟨"HomeSystemModel$Program", "checkSwitch", "(I)V"⟩ prog_16_method_95_code 7 (Option.none : Option Jvm.ClassFile.FieldType) ∈ AL := AL_13 (List.mem_of_getElem? (i := 45) rfl) rfl
theorem ms_13_8 : Cond.selects "HomeSystemModel$Program" ⟨"HomeSystemModel$Program", "checkSwitch", "(I)V"⟩ ⟨"HomeSystemModel$Program", "checkSwitch", "(I)V"⟩ ∈ AL := AL_p (q := (⟨"HomeSystemModel$Program", "checkSwitch", "(I)V"⟩, 69)) (by unfold lw_privs; exact List.mem_append_right _ (List.mem_append_right _ (List.mem_append_right _ (List.mem_append_right _ (List.mem_append_right _ (List.mem_append_right _ (List.mem_append_right _ (List.mem_append_right _ (List.mem_append_right _ (List.mem_append_right _ (List.mem_append_right _ (List.mem_append_right _ (List.mem_append_left _ (List.mem_of_getElem? (i := 8) rfl))))))))))))))
theorem m13_44 : Cond.instanceMethod ⟨"HomeSystemModel$Program", "checkSwitch", "(I)V"⟩ ∈ AL := AL_13 (List.mem_of_getElem? (i := 44) rfl) rfl
theorem m13_46 : Cond.methodLink "HomeSystemModel$Program" 664 ⟨"HomeSystemModel$Program", "checkReturn", "(I)V"⟩ ∈ AL := AL_13 (List.mem_of_getElem? (i := 46) rfl) rfl
theorem m13_49 : Cond.code ⟨"HomeSystemModel$Program", "checkReturn", "(I)V"⟩ prog_16_method_96_code 3 (Option.none : Option Jvm.ClassFile.FieldType) ∈ AL := AL_13 (List.mem_of_getElem? (i := 49) rfl) rfl
theorem ms_13_9 : Cond.selects "HomeSystemModel$Program" ⟨"HomeSystemModel$Program", "checkReturn", "(I)V"⟩ ⟨"HomeSystemModel$Program", "checkReturn", "(I)V"⟩ ∈ AL := AL_p (q := (⟨"HomeSystemModel$Program", "checkReturn", "(I)V"⟩, 69)) (by unfold lw_privs; exact List.mem_append_right _ (List.mem_append_right _ (List.mem_append_right _ (List.mem_append_right _ (List.mem_append_right _ (List.mem_append_right _ (List.mem_append_right _ (List.mem_append_right _ (List.mem_append_right _ (List.mem_append_right _ (List.mem_append_right _ (List.mem_append_right _ (List.mem_append_left _ (List.mem_of_getElem? (i := 9) rfl))))))))))))))
theorem m13_48 : Cond.instanceMethod ⟨"HomeSystemModel$Program", "checkReturn", "(I)V"⟩ ∈ AL := AL_13 (List.mem_of_getElem? (i := 48) rfl) rfl
theorem tys_j {G : Gm} {na ma : Nat → Nat → Int32} {lo hi : Int} {n : Int32} {t : Nat} (hn : lo ≤ n.toInt ∧ n.toInt < hi ∧ 0 ≤ n.toInt) (k : 29 ≤ (na 14 n.toNatClampNeg).toInt ∧ (na 14 n.toNatClampNeg).toInt ≤ 32) (ht : t = 4) : TyE G na ma lo hi n t := by
  subst ht
  by_cases h : (na 14 n.toNatClampNeg).toInt = 31
  · exact tys_31 hn (by decide) h (by decide)
  · by_cases h2 : (na 14 n.toNatClampNeg).toInt = 32
    · exact tys_32 hn (by decide) h2 rfl
    · exact tys_0 hn (by decide) (by omega)
set_option maxHeartbeats 4000000 in
set_option maxRecDepth 100000 in
theorem c_mp_checkStatement (l : Launch) (D : va_G) (cs : Nat → ClassId) (ma0 : Nat → Nat → Int32) (ys : Int) (nf : Int) (tx : Int) (d : Nat) (lo : Int) (hi : Int) (w : Int) (h : Nat) (r : Nat → Nat) (g : Nat → Nat → Option Nat) (tf : Nat → Int32) (ta : Nat → Nat → Int32) (pf : Nat → Int32) (na : Nat → Nat → Int32) (wa : Nat → Nat → Int32) (ef : Nat → Int32) (ea : Nat → Nat → Int32) (xf : Nat → Int32) (xa : Nat → Nat → Int32) (ma : Nat → Nat → Int32) (cf : Nat → Int32) (ca : Nat → Nat → Int32) (p0 : Int32)  (g0 : 0 ≤ lo) (g1 : hi ≤ (pf 13).toInt) (g2 : (pf 13).toInt ≤ 2100) (g3 : (tf 6).toInt ≤ 2049) (g4 : 0 ≤ (cf 33).toInt) (g5 : 0 ≤ w) (g6 : 6 * (cf 33).toInt + w ≤ 6540) (g7 : 0 ≤ (cf 48).toInt) (g8 : 6 * (cf 48).toInt + w ≤ 6540) (g9 : (cf 38).toInt = nf) (g10 : 0 ≤ nf) (g11 : 0 ≤ (cf 37).toInt) (g12 : 0 ≤ (cf 54).toInt) (g13 : (cf 54).toInt ≤ 4096 * (cf 48).toInt) (g14 : 0 ≤ (cf 42).toInt) (g15 : (cf 42).toInt ≤ 4 + 4096 * (cf 48).toInt) (g16 : 0 ≤ (cf 44).toInt) (g17 : 0 ≤ (cf 45).toInt) (g18 : ys ≤ (cf 48).toInt ∨ tx = 1) (g19 : 0 ≤ (cf 46).toInt) (g20 : (cf 46).toInt ≤ 1) (g21 : 0 ≤ (cf 47).toInt) (g22 : (cf 47).toInt ≤ 1) (g23 : (cf 44).toInt + ((d + 1 : Nat) : Int) ≤ 400) (g24 : (cf 45).toInt + ((d + 1 : Nat) : Int) ≤ 400) (g25 : 0 ≤ (cf 43).toInt) (g26 : (cf 43).toInt < 2100) (g27 : tx = 0) (htk : TkI tf ta) (hfs : FsI (tf 6).toInt (pf 13).toInt na) (hwr : WrV cf (tf 6).toInt) (hkt : KnT (tf 6).toInt ca (cf 33).toInt) (hft : FnT (tf 6).toInt na ca (cf 38).toInt) (hks : KnS ca (cf 33).toInt (cf 48).toInt ys) (hfp : FnP na ca nf) (hsr : SyR ca ys (cf 48).toInt (cf 54).toInt tx) (han : Ann na ma0 ma) (htx : txo (cf 43).toInt = tx) (hsc : ScV ta (tf 6).toInt na ma0 (d + 1) lo hi w p0) (hLS : StC l D cs d) : MetV l y_Mpg_checkStatement b_Mpg_checkStatement 3 D cs (6 * (d + 1) + 26) (260 * (d + 1) + 900) (0) (0) [.ref h, .int p0] [wdP cs h r g tf ta pf na ma wa cf ca ef ea xf xa] (oX (fun A U H => (oP A g U H)) [wdP cs h r g tf ta pf na ma wa cf ca ef ea xf xa]) (fun ps => ∃ (ma' : Nat → Nat → Int32) (cf' : Nat → Int32) (ca' : Nat → Nat → Int32), (ps = [wdP cs h r g tf ta pf na ma' wa cf' ca' ef ea xf xa]) ∧ ((cf' 30).toInt = 0 → (cf 30).toInt = 0) ∧ (WrV cf' (tf 6).toInt) ∧ ((cf' 37).toInt = (cf 37).toInt) ∧ ((cf' 38).toInt = (cf 38).toInt) ∧ ((cf' 43).toInt = (cf 43).toInt) ∧ ((cf' 44).toInt = (cf 44).toInt) ∧ ((cf' 45).toInt = (cf 45).toInt) ∧ ((cf' 46).toInt = (cf 46).toInt) ∧ ((cf' 47).toInt = (cf 47).toInt) ∧ ((cf' 41).toInt = (cf 41).toInt) ∧ ((cf' 55).toInt = (cf 55).toInt) ∧ ((cf' 59).toInt = (cf 59).toInt) ∧ ((cf 33).toInt ≤ (cf' 33).toInt) ∧ (6 * (cf' 33).toInt ≤ 6 * (cf 33).toInt + (w)) ∧ ((cf 48).toInt ≤ (cf' 48).toInt) ∧ (6 * (cf' 48).toInt ≤ 6 * (cf 48).toInt + (w)) ∧ ((cf 54).toInt ≤ (cf' 54).toInt) ∧ ((cf 42).toInt ≤ (cf' 42).toInt) ∧ ((cf' 54).toInt - (cf 54).toInt ≤ 4 * ((cf' 42).toInt - (cf 42).toInt)) ∧ ((cf' 54).toInt - (cf 54).toInt ≤ 4096 * ((cf' 48).toInt - (cf 48).toInt)) ∧ ((cf' 42).toInt - (cf 42).toInt ≤ 4096 * ((cf' 48).toInt - (cf 48).toInt)) ∧ (KnT (tf 6).toInt ca' (cf' 33).toInt) ∧ (KnS ca' (cf' 33).toInt (cf' 48).toInt ys) ∧ (CaG ca ca' (cf 33).toInt (cf 48).toInt) ∧ (SyR ca' ys (cf' 48).toInt (cf' 54).toInt tx) ∧ (Ann na ma0 ma') ∧ (FrC lo hi ma ma') ∧ (ZTe cf' ta ca' na ma0 (cf' 48).toInt ys nf ma' lo hi p0 (tgv (cf 44).toInt (cf 45).toInt))) := by
  refine px_enter (by decide) (Nat.le_of_ble_eq_true rfl) ?_
  intro p e s m below meth c A ls hAe S hr hlk hnm hA hT hX hw hl
  have hl : lv_has ls 3 [(0, .ref h), (1, .int p0)] := hl
  have lp0 := Int32.le_toInt p0
  have up0 := Int32.toInt_lt p0
  have cst0 : (0 : Int32).toInt = 0 := rfl
  have cst1 : (1 : Int32).toInt = 1 := rfl
  have cst9 : (9 : Int32).toInt = 9 := rfl
  have cst31 : (31 : Int32).toInt = 31 := rfl
  have hX : (fun A U H => (oP A g U H)) A s s.heap := by rw [hAe]; exact hX
  have hP := hX
  have hZ := hP.1
  have hF0 := hP.2.1
  have hfc : FrC lo hi ma ma := FrC.rf
  have hwr0 := hwr.1
  have hk11 := hkt.1
  have hf11 := hft.1
  have hcg : CaG ca ca (cf 33).toInt (cf 48).toInt := CaG.rf
  have hsr0 := ScV.rng hsc
  have hsc_p0 := hsc
  refine lv_aload_n S.x S.b d_Mpg_checkStatement_0 rfl (lv_at hl 0 rfl) ?_
  refine px_get S k_Mpg hT hw 0 0 14 (v := .ref (r 14)) rfl rfl rfl (by decide) m9_238 d_Mpg_checkStatement_1 ?_
  refine lv_iload_n S.x S.b d_Mpg_checkStatement_4 rfl (lv_at hl 1 rfl) ?_
  refine px_bald S hT hw 0 10 (n := 2100) (f := (na 14)) rfl gp_14 (x := p0) (vp_in_iff.mpr (by constructor <;> omega)) d_Mpg_checkStatement_5 ?_
  refine lv_topi (fun z1 ez1 => ?_)
  have lz1 := Int32.le_toInt z1
  have uz1 := Int32.toInt_lt z1
  have rz1 := ScV.kd hsc_p0 ez1
  refine px_tableD S (dt := 227) [(76, [20]), (84, [21]), (87, [22]), (100, [23]), (109, [24]), (153, [25]), (178, [26]), (203, [27]), (211, [28]), (227, [29, 30, 31, 32]), (219, [33])] d_Mpg_checkStatement_6 (by decide +kernel) (by decide) (by decide +kernel) ?_ ?_
  · intro hdf_6
    refine lv_aload_n S.x S.b d_Mpg_checkStatement_227 rfl (lv_at hl 0 rfl) ?_
    refine px_get S k_Mpg hT hw 0 0 44 (v := .int (cf 44)) rfl rfl rfl (by decide) m10_35 d_Mpg_checkStatement_228 ?_
    refine lv_if_gt (tgt := 252) S.x S.b d_Mpg_checkStatement_231 (by decide) (fun c2 => ?_) (fun c2 => ?_)
    · have nc2 : (0 : Int) < (cf 44).toInt := (i_lt (x := 0) (y := (cf 44))).mp c2
      refine lv_iconst (v := 1) S.x S.b d_Mpg_checkStatement_252 (by decide) ?_
      refine lv_goto (tgt := 257) S.x S.b d_Mpg_checkStatement_253 (by decide) ?_
      refine lv_istore_n (lv' := [(2, .int 1), (0, .ref h), (1, .int p0)]) S.x S.b d_Mpg_checkStatement_257 rfl hl (by decide) rfl (fun ls hl => ?_)
      refine lv_iload_n S.x S.b d_Mpg_checkStatement_258 rfl (lv_at hl 0 rfl) ?_
      refine lv_if_ne (tgt := 274) S.x S.b d_Mpg_checkStatement_259 (by decide) (fun c3 => ?_) (fun c3 => ?_)
      ·
        exact px_vret S hr hlk hAe hw (Nat.le_of_ble_eq_true rfl) (Nat.le_of_ble_eq_true rfl) (⟨ma, cf, ca, rfl, (show (cf 30).toInt = 0 → (cf 30).toInt = 0 from by omega), (show WrV cf (tf 6).toInt from hwr), (show (cf 37).toInt = (cf 37).toInt from by omega), (show (cf 38).toInt = (cf 38).toInt from by omega), (show (cf 43).toInt = (cf 43).toInt from by omega), (show (cf 44).toInt = (cf 44).toInt from by omega), (show (cf 45).toInt = (cf 45).toInt from by omega), (show (cf 46).toInt = (cf 46).toInt from by omega), (show (cf 47).toInt = (cf 47).toInt from by omega), (show (cf 41).toInt = (cf 41).toInt from by omega), (show (cf 55).toInt = (cf 55).toInt from by omega), (show (cf 59).toInt = (cf 59).toInt from by omega), (show (cf 33).toInt ≤ (cf 33).toInt from by omega), (show 6 * (cf 33).toInt ≤ 6 * (cf 33).toInt + (w) from by omega), (show (cf 48).toInt ≤ (cf 48).toInt from by omega), (show 6 * (cf 48).toInt ≤ 6 * (cf 48).toInt + (w) from by omega), (show (cf 54).toInt ≤ (cf 54).toInt from by omega), (show (cf 42).toInt ≤ (cf 42).toInt from by omega), (show (cf 54).toInt - (cf 54).toInt ≤ 4 * ((cf 42).toInt - (cf 42).toInt) from by omega), (show (cf 54).toInt - (cf 54).toInt ≤ 4096 * ((cf 48).toInt - (cf 48).toInt) from by omega), (show (cf 42).toInt - (cf 42).toInt ≤ 4096 * ((cf 48).toInt - (cf 48).toInt) from by omega), (show KnT (tf 6).toInt ca (cf 33).toInt from (KnT.eq hkt (by omega))), (show KnS ca (cf 33).toInt (cf 48).toInt ys from (KnS.eq hks (by omega) (by omega))), (show CaG ca ca (cf 33).toInt (cf 48).toInt from (hcg.le (by omega) (by omega))), (show SyR ca ys (cf 48).toInt (cf 54).toInt tx from (SyR.eq hsr (by omega) (by omega))), (show Ann na ma0 ma from han), (show FrC lo hi ma ma from hfc), (show ZTe cf ta ca na ma0 (cf 48).toInt ys nf ma lo hi p0 (tgv (cf 44).toInt (cf 45).toInt) from (fun zz => by first | exact tys_0 ⟨by omega, by omega, by omega⟩ tgv_rng (by omega) | exact tys_j ⟨by omega, by omega, by omega⟩ (by omega) (tgv_4 (by omega)) | exact tys_31 ⟨by omega, by omega, by omega⟩ tgv_rng (by omega) (tgv_ge (by omega))))⟩) d_Mpg_checkStatement_274
      · exact absurd c3 (by decide)
    · have nc2 : ¬ (0 : Int) < (cf 44).toInt := mt (i_lt (x := 0) (y := (cf 44))).mpr c2
      refine lv_aload_n S.x S.b d_Mpg_checkStatement_234 rfl (lv_at hl 0 rfl) ?_
      refine px_get S k_Mpg hT hw 0 0 14 (v := .ref (r 14)) rfl rfl rfl (by decide) m9_238 d_Mpg_checkStatement_235 ?_
      refine lv_iload_n S.x S.b d_Mpg_checkStatement_238 rfl (lv_at hl 1 rfl) ?_
      refine px_bald S hT hw 0 10 (n := 2100) (f := (na 14)) rfl gp_14 (x := p0) (vp_in_iff.mpr (by constructor <;> omega)) d_Mpg_checkStatement_239 ?_
      refine lv_topi (fun z4 ez4 => ?_)
      have lz4 := Int32.le_toInt z4
      have uz4 := Int32.toInt_lt z4
      have rz4 := ScV.kd hsc_p0 ez4
      refine lv_bipush (v := 31) S.x S.b d_Mpg_checkStatement_240 (by decide) ?_
      refine lv_icmp_ne (tgt := 256) S.x S.b d_Mpg_checkStatement_242 (by decide) (fun c5 => ?_) (fun c5 => ?_)
      · have nc5 : ¬ z4.toInt = (31 : Int) := mt (i_eq (x := z4) (y := 31)).mpr c5
        refine lv_iconst (v := 0) S.x S.b d_Mpg_checkStatement_256 (by decide) ?_
        refine lv_istore_n (lv' := [(2, .int 0), (0, .ref h), (1, .int p0)]) S.x S.b d_Mpg_checkStatement_257 rfl hl (by decide) rfl (fun ls hl => ?_)
        refine lv_iload_n S.x S.b d_Mpg_checkStatement_258 rfl (lv_at hl 0 rfl) ?_
        refine lv_if_ne (tgt := 274) S.x S.b d_Mpg_checkStatement_259 (by decide) (fun c6 => ?_) (fun c6 => ?_)
        · exact absurd c6 (by decide)
        ·
          refine lv_aload_n S.x S.b d_Mpg_checkStatement_262 rfl (lv_at hl 1 rfl) ?_
          refine lv_bipush (v := 9) S.x S.b d_Mpg_checkStatement_263 (by decide) ?_
          refine lv_aload_n S.x S.b d_Mpg_checkStatement_265 rfl (lv_at hl 1 rfl) ?_
          refine px_get S k_Mpg hT hw 0 0 15 (v := .ref (r 15)) rfl rfl rfl (by decide) m9_239 d_Mpg_checkStatement_266 ?_
          refine lv_iload_n S.x S.b d_Mpg_checkStatement_269 rfl (lv_at hl 2 rfl) ?_
          refine px_iald S hT hw 0 11 (n := 2100) (f := (na 15)) rfl gp_15 (x := p0) (vp_in_iff.mpr (by constructor <;> omega)) d_Mpg_checkStatement_270 ?_
          refine lv_topi (fun z7 ez7 => ?_)
          have lz7 := Int32.le_toInt z7
          have uz7 := Int32.toInt_lt z7
          have rz7 := ScV.tok hsc_p0 ez7
          refine px_callv (pr := []) (px_runV (As := [.int 9, .int z7]) (rest := []) S (c_mp_bad l D cs h r g tf ta pf na ma wa ca ef ea xf xa cf 9 z7  (show 1 ≤ (9 : Int) from by omega) (show 0 ≤ z7.toInt from by omega) (show z7.toInt < (tf 6).toInt from by omega) htk hwr _) hT (pr := []) (pcs := [wdP cs h r g tf ta pf na ma wa cf ca ef ea xf xa]) hw px_X.tt (px_recv hT hw 0 0 rfl rfl rfl) m12_173 m12_170 m12_172 ms_11_12 m1_21 q_Mpg_bad ⟨show 0 + 1 ≤ (6 * (d + 1) + 26) from by omega, show 8 + (3 + 11) + 0 ≤ (260 * (d + 1) + 900) from by omega⟩ hl.1 rfl (Nat.le_of_ble_eq_true rfl) d_Mpg_checkStatement_271 ⟨Nat.le_of_ble_eq_true rfl, Nat.le_of_ble_eq_true rfl⟩) hw hA (fun p10 H locs hp10 hw => ?_)
          obtain ⟨cf9, rfl, e12, e13, e14, e15, e16, e17, e18, e19, e20, e21, e22, e23, e24, e25, e26, e27, e28, e29, e30⟩ := hp10
          have e12 : KpE cf cf9 := e12
          have hkz_e12 := e12.2
          have e13 : WrV cf9 (tf 6).toInt := e13
          have hwr := e13
          have hw0_e13 := hwr.1
          have e14 : 1 ≤ (cf9 30).toInt := e14
          have e15 : (cf9 33).toInt = (cf 33).toInt := e15
          have e16 : (cf9 38).toInt = (cf 38).toInt := e16
          have e17 : (cf9 48).toInt = (cf 48).toInt := e17
          have e18 : (cf9 46).toInt = (cf 46).toInt := e18
          have e19 : (cf9 47).toInt = (cf 47).toInt := e19
          have e20 : (cf9 57).toInt = (cf 57).toInt := e20
          have e21 : (cf9 37).toInt = (cf 37).toInt := e21
          have e22 : (cf9 42).toInt = (cf 42).toInt := e22
          have e23 : (cf9 43).toInt = (cf 43).toInt := e23
          have e24 : (cf9 44).toInt = (cf 44).toInt := e24
          have e25 : (cf9 45).toInt = (cf 45).toInt := e25
          have e26 : (cf9 54).toInt = (cf 54).toInt := e26
          have e27 : (cf9 55).toInt = (cf 55).toInt := e27
          have e28 : (cf9 58).toInt = (cf 58).toInt := e28
          have e29 : (cf9 59).toInt = (cf 59).toInt := e29
          have e30 : (cf9 41).toInt = (cf 41).toInt := e30
          have hw : pw D A s.heap H locs [wdP cs h r g tf ta pf na ma wa cf9 ca ef ea xf xa] := hw
          exact px_vret S hr hlk hAe hw (Nat.le_of_ble_eq_true rfl) (Nat.le_of_ble_eq_true rfl) (⟨ma, cf9, ca, rfl, (show (cf9 30).toInt = 0 → (cf 30).toInt = 0 from by omega), (show WrV cf9 (tf 6).toInt from hwr), (show (cf9 37).toInt = (cf 37).toInt from by omega), (show (cf9 38).toInt = (cf 38).toInt from by omega), (show (cf9 43).toInt = (cf 43).toInt from by omega), (show (cf9 44).toInt = (cf 44).toInt from by omega), (show (cf9 45).toInt = (cf 45).toInt from by omega), (show (cf9 46).toInt = (cf 46).toInt from by omega), (show (cf9 47).toInt = (cf 47).toInt from by omega), (show (cf9 41).toInt = (cf 41).toInt from by omega), (show (cf9 55).toInt = (cf 55).toInt from by omega), (show (cf9 59).toInt = (cf 59).toInt from by omega), (show (cf 33).toInt ≤ (cf9 33).toInt from by omega), (show 6 * (cf9 33).toInt ≤ 6 * (cf 33).toInt + (w) from by omega), (show (cf 48).toInt ≤ (cf9 48).toInt from by omega), (show 6 * (cf9 48).toInt ≤ 6 * (cf 48).toInt + (w) from by omega), (show (cf 54).toInt ≤ (cf9 54).toInt from by omega), (show (cf 42).toInt ≤ (cf9 42).toInt from by omega), (show (cf9 54).toInt - (cf 54).toInt ≤ 4 * ((cf9 42).toInt - (cf 42).toInt) from by omega), (show (cf9 54).toInt - (cf 54).toInt ≤ 4096 * ((cf9 48).toInt - (cf 48).toInt) from by omega), (show (cf9 42).toInt - (cf 42).toInt ≤ 4096 * ((cf9 48).toInt - (cf 48).toInt) from by omega), (show KnT (tf 6).toInt ca (cf9 33).toInt from (KnT.eq hkt (by omega))), (show KnS ca (cf9 33).toInt (cf9 48).toInt ys from (KnS.eq hks (by omega) (by omega))), (show CaG ca ca (cf 33).toInt (cf 48).toInt from (hcg.le (by omega) (by omega))), (show SyR ca ys (cf9 48).toInt (cf9 54).toInt tx from (SyR.eq hsr (by omega) (by omega))), (show Ann na ma0 ma from han), (show FrC lo hi ma ma from hfc), (show ZTe cf9 ta ca na ma0 (cf9 48).toInt ys nf ma lo hi p0 (tgv (cf 44).toInt (cf 45).toInt) from (zr_no (by omega)))⟩) d_Mpg_checkStatement_274
      · have nc5 : z4.toInt = (31 : Int) := (i_eq (x := z4) (y := 31)).mp c5
        refine lv_aload_n S.x S.b d_Mpg_checkStatement_245 rfl (lv_at hl 0 rfl) ?_
        refine px_get S k_Mpg hT hw 0 0 45 (v := .int (cf 45)) rfl rfl rfl (by decide) m10_36 d_Mpg_checkStatement_246 ?_
        refine lv_if_le (tgt := 256) S.x S.b d_Mpg_checkStatement_249 (by decide) (fun c31 => ?_) (fun c31 => ?_)
        · have nc31 : (cf 45).toInt ≤ (0 : Int) := (i_le (x := (cf 45)) (y := 0)).mp c31
          refine lv_iconst (v := 0) S.x S.b d_Mpg_checkStatement_256 (by decide) ?_
          refine lv_istore_n (lv' := [(2, .int 0), (0, .ref h), (1, .int p0)]) S.x S.b d_Mpg_checkStatement_257 rfl hl (by decide) rfl (fun ls hl => ?_)
          refine lv_iload_n S.x S.b d_Mpg_checkStatement_258 rfl (lv_at hl 0 rfl) ?_
          refine lv_if_ne (tgt := 274) S.x S.b d_Mpg_checkStatement_259 (by decide) (fun c32 => ?_) (fun c32 => ?_)
          · exact absurd c32 (by decide)
          ·
            refine lv_aload_n S.x S.b d_Mpg_checkStatement_262 rfl (lv_at hl 1 rfl) ?_
            refine lv_bipush (v := 9) S.x S.b d_Mpg_checkStatement_263 (by decide) ?_
            refine lv_aload_n S.x S.b d_Mpg_checkStatement_265 rfl (lv_at hl 1 rfl) ?_
            refine px_get S k_Mpg hT hw 0 0 15 (v := .ref (r 15)) rfl rfl rfl (by decide) m9_239 d_Mpg_checkStatement_266 ?_
            refine lv_iload_n S.x S.b d_Mpg_checkStatement_269 rfl (lv_at hl 2 rfl) ?_
            refine px_iald S hT hw 0 11 (n := 2100) (f := (na 15)) rfl gp_15 (x := p0) (vp_in_iff.mpr (by constructor <;> omega)) d_Mpg_checkStatement_270 ?_
            refine lv_topi (fun z33 ez33 => ?_)
            have lz33 := Int32.le_toInt z33
            have uz33 := Int32.toInt_lt z33
            have rz33 := ScV.tok hsc_p0 ez33
            refine px_callv (pr := []) (px_runV (As := [.int 9, .int z33]) (rest := []) S (c_mp_bad l D cs h r g tf ta pf na ma wa ca ef ea xf xa cf 9 z33  (show 1 ≤ (9 : Int) from by omega) (show 0 ≤ z33.toInt from by omega) (show z33.toInt < (tf 6).toInt from by omega) htk hwr _) hT (pr := []) (pcs := [wdP cs h r g tf ta pf na ma wa cf ca ef ea xf xa]) hw px_X.tt (px_recv hT hw 0 0 rfl rfl rfl) m12_173 m12_170 m12_172 ms_11_12 m1_21 q_Mpg_bad ⟨show 0 + 1 ≤ (6 * (d + 1) + 26) from by omega, show 8 + (3 + 11) + 0 ≤ (260 * (d + 1) + 900) from by omega⟩ hl.1 rfl (Nat.le_of_ble_eq_true rfl) d_Mpg_checkStatement_271 ⟨Nat.le_of_ble_eq_true rfl, Nat.le_of_ble_eq_true rfl⟩) hw hA (fun p36 H locs hp36 hw => ?_)
            obtain ⟨cf35, rfl, e38, e39, e40, e41, e42, e43, e44, e45, e46, e47, e48, e49, e50, e51, e52, e53, e54, e55, e56⟩ := hp36
            have e38 : KpE cf cf35 := e38
            have hkz_e38 := e38.2
            have e39 : WrV cf35 (tf 6).toInt := e39
            have hwr := e39
            have hw0_e39 := hwr.1
            have e40 : 1 ≤ (cf35 30).toInt := e40
            have e41 : (cf35 33).toInt = (cf 33).toInt := e41
            have e42 : (cf35 38).toInt = (cf 38).toInt := e42
            have e43 : (cf35 48).toInt = (cf 48).toInt := e43
            have e44 : (cf35 46).toInt = (cf 46).toInt := e44
            have e45 : (cf35 47).toInt = (cf 47).toInt := e45
            have e46 : (cf35 57).toInt = (cf 57).toInt := e46
            have e47 : (cf35 37).toInt = (cf 37).toInt := e47
            have e48 : (cf35 42).toInt = (cf 42).toInt := e48
            have e49 : (cf35 43).toInt = (cf 43).toInt := e49
            have e50 : (cf35 44).toInt = (cf 44).toInt := e50
            have e51 : (cf35 45).toInt = (cf 45).toInt := e51
            have e52 : (cf35 54).toInt = (cf 54).toInt := e52
            have e53 : (cf35 55).toInt = (cf 55).toInt := e53
            have e54 : (cf35 58).toInt = (cf 58).toInt := e54
            have e55 : (cf35 59).toInt = (cf 59).toInt := e55
            have e56 : (cf35 41).toInt = (cf 41).toInt := e56
            have hw : pw D A s.heap H locs [wdP cs h r g tf ta pf na ma wa cf35 ca ef ea xf xa] := hw
            exact px_vret S hr hlk hAe hw (Nat.le_of_ble_eq_true rfl) (Nat.le_of_ble_eq_true rfl) (⟨ma, cf35, ca, rfl, (show (cf35 30).toInt = 0 → (cf 30).toInt = 0 from by omega), (show WrV cf35 (tf 6).toInt from hwr), (show (cf35 37).toInt = (cf 37).toInt from by omega), (show (cf35 38).toInt = (cf 38).toInt from by omega), (show (cf35 43).toInt = (cf 43).toInt from by omega), (show (cf35 44).toInt = (cf 44).toInt from by omega), (show (cf35 45).toInt = (cf 45).toInt from by omega), (show (cf35 46).toInt = (cf 46).toInt from by omega), (show (cf35 47).toInt = (cf 47).toInt from by omega), (show (cf35 41).toInt = (cf 41).toInt from by omega), (show (cf35 55).toInt = (cf 55).toInt from by omega), (show (cf35 59).toInt = (cf 59).toInt from by omega), (show (cf 33).toInt ≤ (cf35 33).toInt from by omega), (show 6 * (cf35 33).toInt ≤ 6 * (cf 33).toInt + (w) from by omega), (show (cf 48).toInt ≤ (cf35 48).toInt from by omega), (show 6 * (cf35 48).toInt ≤ 6 * (cf 48).toInt + (w) from by omega), (show (cf 54).toInt ≤ (cf35 54).toInt from by omega), (show (cf 42).toInt ≤ (cf35 42).toInt from by omega), (show (cf35 54).toInt - (cf 54).toInt ≤ 4 * ((cf35 42).toInt - (cf 42).toInt) from by omega), (show (cf35 54).toInt - (cf 54).toInt ≤ 4096 * ((cf35 48).toInt - (cf 48).toInt) from by omega), (show (cf35 42).toInt - (cf 42).toInt ≤ 4096 * ((cf35 48).toInt - (cf 48).toInt) from by omega), (show KnT (tf 6).toInt ca (cf35 33).toInt from (KnT.eq hkt (by omega))), (show KnS ca (cf35 33).toInt (cf35 48).toInt ys from (KnS.eq hks (by omega) (by omega))), (show CaG ca ca (cf 33).toInt (cf 48).toInt from (hcg.le (by omega) (by omega))), (show SyR ca ys (cf35 48).toInt (cf35 54).toInt tx from (SyR.eq hsr (by omega) (by omega))), (show Ann na ma0 ma from han), (show FrC lo hi ma ma from hfc), (show ZTe cf35 ta ca na ma0 (cf35 48).toInt ys nf ma lo hi p0 (tgv (cf 44).toInt (cf 45).toInt) from (zr_no (by omega)))⟩) d_Mpg_checkStatement_274
        · have nc31 : ¬ (cf 45).toInt ≤ (0 : Int) := mt (i_le (x := (cf 45)) (y := 0)).mpr c31
          refine lv_iconst (v := 1) S.x S.b d_Mpg_checkStatement_252 (by decide) ?_
          refine lv_goto (tgt := 257) S.x S.b d_Mpg_checkStatement_253 (by decide) ?_
          refine lv_istore_n (lv' := [(2, .int 1), (0, .ref h), (1, .int p0)]) S.x S.b d_Mpg_checkStatement_257 rfl hl (by decide) rfl (fun ls hl => ?_)
          refine lv_iload_n S.x S.b d_Mpg_checkStatement_258 rfl (lv_at hl 0 rfl) ?_
          refine lv_if_ne (tgt := 274) S.x S.b d_Mpg_checkStatement_259 (by decide) (fun c57 => ?_) (fun c57 => ?_)
          ·
            exact px_vret S hr hlk hAe hw (Nat.le_of_ble_eq_true rfl) (Nat.le_of_ble_eq_true rfl) (⟨ma, cf, ca, rfl, (show (cf 30).toInt = 0 → (cf 30).toInt = 0 from by omega), (show WrV cf (tf 6).toInt from hwr), (show (cf 37).toInt = (cf 37).toInt from by omega), (show (cf 38).toInt = (cf 38).toInt from by omega), (show (cf 43).toInt = (cf 43).toInt from by omega), (show (cf 44).toInt = (cf 44).toInt from by omega), (show (cf 45).toInt = (cf 45).toInt from by omega), (show (cf 46).toInt = (cf 46).toInt from by omega), (show (cf 47).toInt = (cf 47).toInt from by omega), (show (cf 41).toInt = (cf 41).toInt from by omega), (show (cf 55).toInt = (cf 55).toInt from by omega), (show (cf 59).toInt = (cf 59).toInt from by omega), (show (cf 33).toInt ≤ (cf 33).toInt from by omega), (show 6 * (cf 33).toInt ≤ 6 * (cf 33).toInt + (w) from by omega), (show (cf 48).toInt ≤ (cf 48).toInt from by omega), (show 6 * (cf 48).toInt ≤ 6 * (cf 48).toInt + (w) from by omega), (show (cf 54).toInt ≤ (cf 54).toInt from by omega), (show (cf 42).toInt ≤ (cf 42).toInt from by omega), (show (cf 54).toInt - (cf 54).toInt ≤ 4 * ((cf 42).toInt - (cf 42).toInt) from by omega), (show (cf 54).toInt - (cf 54).toInt ≤ 4096 * ((cf 48).toInt - (cf 48).toInt) from by omega), (show (cf 42).toInt - (cf 42).toInt ≤ 4096 * ((cf 48).toInt - (cf 48).toInt) from by omega), (show KnT (tf 6).toInt ca (cf 33).toInt from (KnT.eq hkt (by omega))), (show KnS ca (cf 33).toInt (cf 48).toInt ys from (KnS.eq hks (by omega) (by omega))), (show CaG ca ca (cf 33).toInt (cf 48).toInt from (hcg.le (by omega) (by omega))), (show SyR ca ys (cf 48).toInt (cf 54).toInt tx from (SyR.eq hsr (by omega) (by omega))), (show Ann na ma0 ma from han), (show FrC lo hi ma ma from hfc), (show ZTe cf ta ca na ma0 (cf 48).toInt ys nf ma lo hi p0 (tgv (cf 44).toInt (cf 45).toInt) from (fun zz => by first | exact tys_0 ⟨by omega, by omega, by omega⟩ tgv_rng (by omega) | exact tys_j ⟨by omega, by omega, by omega⟩ (by omega) (tgv_4 (by omega)) | exact tys_31 ⟨by omega, by omega, by omega⟩ tgv_rng (by omega) (tgv_ge (by omega))))⟩) d_Mpg_checkStatement_274
          · exact absurd c57 (by decide)
  · refine List.forall_mem_cons.mpr ⟨fun c58 => ?_, List.forall_mem_cons.mpr ⟨fun c58 => ?_, List.forall_mem_cons.mpr ⟨fun c58 => ?_, List.forall_mem_cons.mpr ⟨fun c58 => ?_, List.forall_mem_cons.mpr ⟨fun c58 => ?_, List.forall_mem_cons.mpr ⟨fun c58 => ?_, List.forall_mem_cons.mpr ⟨fun c58 => ?_, List.forall_mem_cons.mpr ⟨fun c58 => ?_, List.forall_mem_cons.mpr ⟨fun c58 => ?_, List.forall_mem_cons.mpr ⟨fun c58 => ?_, List.forall_mem_cons.mpr ⟨fun c58 => ?_, fun _ h => absurd h List.not_mem_nil⟩⟩⟩⟩⟩⟩⟩⟩⟩⟩⟩
    · simp only [List.mem_cons, List.not_mem_nil, or_false] at c58
      refine lv_aload_n S.x S.b d_Mpg_checkStatement_76 rfl (lv_at hl 0 rfl) ?_
      refine lv_iload_n S.x S.b d_Mpg_checkStatement_77 rfl (lv_at hl 1 rfl) ?_
      refine px_callv (pr := []) (px_runV (As := [.int p0]) (rest := []) S (c_mp_checkBlock l D cs ma0 ys nf tx d lo hi w h r g tf ta pf na wa ef ea xf xa ma cf ca p0  (show 0 ≤ lo from by omega) (show hi ≤ (pf 13).toInt from by omega) (show (pf 13).toInt ≤ 2100 from by omega) (show (tf 6).toInt ≤ 2049 from by omega) (show 0 ≤ (cf 33).toInt from by omega) (show 0 ≤ w from by omega) (show 6 * (cf 33).toInt + w ≤ 6540 from by omega) (show 0 ≤ (cf 48).toInt from by omega) (show 6 * (cf 48).toInt + w ≤ 6540 from by omega) (show (cf 38).toInt = nf from by omega) (show 0 ≤ nf from by omega) (show 0 ≤ (cf 37).toInt from by omega) (show 0 ≤ (cf 54).toInt from by omega) (show (cf 54).toInt ≤ 4096 * (cf 48).toInt from by omega) (show 0 ≤ (cf 42).toInt from by omega) (show (cf 42).toInt ≤ 4 + 4096 * (cf 48).toInt from by omega) (show 0 ≤ (cf 44).toInt from by omega) (show 0 ≤ (cf 45).toInt from by omega) (show ys ≤ (cf 48).toInt ∨ tx = 1 from by omega) (show 0 ≤ (cf 46).toInt from by omega) (show (cf 46).toInt ≤ 1 from by omega) (show 0 ≤ (cf 47).toInt from by omega) (show (cf 47).toInt ≤ 1 from by omega) (show (cf 44).toInt + (d : Int) ≤ 400 from by omega) (show (cf 45).toInt + (d : Int) ≤ 400 from by omega) (show 0 ≤ (cf 43).toInt from by omega) (show (cf 43).toInt < 2100 from by omega) (show tx = 0 from by omega) (show (na 14 p0.toNatClampNeg).toInt = 20 from by omega) htk (FsI.le (N' := (pf 13).toInt) hfs (by omega)) hwr (KnT.eq hkt (by omega)) (FnT.eq hft (by omega)) (KnS.eq hks (by omega) (by omega)) hfp (SyR.eq hsr (by omega) (by omega)) han (show txo (cf 43).toInt = tx from by rw [show (cf 43).toInt = (cf 43).toInt by omega]; exact htx) hsc_p0 hLS _) hT (pr := []) (pcs := [wdP cs h r g tf ta pf na ma wa cf ca ef ea xf xa]) hw (oX_call (P := (fun A U H => (oP A g U H))) (pr := []) oG_P hw hA hP) (px_recv hT hw 0 0 rfl rfl rfl) m12_205 m12_202 m12_204 ms_12_4 m1_21 q_Mpg_checkBlock ⟨show (6 * d + 28) + 1 ≤ (6 * (d + 1) + 26) from by omega, show 8 + (4 + 11) + (260 * d + 980) ≤ (260 * (d + 1) + 900) from by omega⟩ hl.1 rfl (Nat.le_of_ble_eq_true rfl) d_Mpg_checkStatement_78 ⟨Nat.le_of_ble_eq_true rfl, Nat.le_of_ble_eq_true rfl⟩) hw hA (fun p65 H locs hp65 hw => ?_)
      obtain ⟨ma62, cf63, ca64, rfl, e67, e68, e69, e70, e71, e72, e73, e74, e75, e76, e77, e78, e79, e80, e81, e82, e83, e84, e85, e86, e87, e88, e89, e90, e91, e92, e93⟩ := hp65
      have e67 : (cf63 30).toInt = 0 → (cf 30).toInt = 0 := e67
      have e68 : WrV cf63 (tf 6).toInt := e68
      have hwr := e68
      have hw0_e68 := hwr.1
      have e69 : (cf63 37).toInt = (cf 37).toInt := e69
      have e70 : (cf63 38).toInt = (cf 38).toInt := e70
      have e71 : (cf63 43).toInt = (cf 43).toInt := e71
      have e72 : (cf63 44).toInt = (cf 44).toInt := e72
      have e73 : (cf63 45).toInt = (cf 45).toInt := e73
      have e74 : (cf63 46).toInt = (cf 46).toInt := e74
      have e75 : (cf63 47).toInt = (cf 47).toInt := e75
      have e76 : (cf63 41).toInt = (cf 41).toInt := e76
      have e77 : (cf63 55).toInt = (cf 55).toInt := e77
      have e78 : (cf63 59).toInt = (cf 59).toInt := e78
      have e79 : (cf63 33).toInt = (cf 33).toInt := e79
      have e80 : (cf 48).toInt ≤ (cf63 48).toInt := e80
      have e81 : 6 * (cf63 48).toInt ≤ 6 * (cf 48).toInt + (w) := e81
      have e82 : (cf 54).toInt ≤ (cf63 54).toInt := e82
      have e83 : (cf 42).toInt ≤ (cf63 42).toInt := e83
      have e84 : (cf63 54).toInt - (cf 54).toInt ≤ 4 * ((cf63 42).toInt - (cf 42).toInt) := e84
      have e85 : (cf63 54).toInt - (cf 54).toInt ≤ 4096 * ((cf63 48).toInt - (cf 48).toInt) := e85
      have e86 : (cf63 42).toInt - (cf 42).toInt ≤ 4096 * ((cf63 48).toInt - (cf 48).toInt) := e86
      have e87 : KnT (tf 6).toInt ca64 (cf63 33).toInt := e87
      have hkt := e87
      have hk11_e87 := hkt.1
      have e88 : KnS ca64 (cf63 33).toInt (cf63 48).toInt ys := e88
      have hks := e88
      have e89 : CaG ca ca64 (cf 33).toInt (cf 48).toInt := e89
      have hcg := hcg.tr e89 (by omega) (by omega)
      have hft := hft.cg e89
      have hfp := hfp.cg e89
      have e90 : SyR ca64 ys (cf63 48).toInt (cf63 54).toInt tx := e90
      have hsr := e90
      have e91 : Ann na ma0 ma62 := e91
      have han := e91
      have e92 : FrC lo hi ma ma62 := e92
      have hfc := hfc.tr e92 (by omega) (by omega)
      have e93 : ZTe cf63 ta ca64 na ma0 (cf63 48).toInt ys nf ma62 lo hi p0 (tgv (cf 44).toInt (cf 45).toInt) := e93
      have hts_p0 : ZTe cf63 ta ca64 na ma0 (cf63 48).toInt ys nf ma62 lo hi p0 (tgv (cf 44).toInt (cf 45).toInt) := ZTe.to e93 (fun q => by omega) (by omega) (Int.le_refl _) (Int.le_refl _) (by congr 1 <;> omega)
      have hw : pw D A s.heap H locs [wdP cs h r g tf ta pf na ma62 wa cf63 ca64 ef ea xf xa] := hw
      refine lv_goto (tgt := 274) S.x S.b d_Mpg_checkStatement_81 (by decide) ?_
      exact px_vret S hr hlk hAe hw (Nat.le_of_ble_eq_true rfl) (Nat.le_of_ble_eq_true rfl) (⟨ma62, cf63, ca64, rfl, (show (cf63 30).toInt = 0 → (cf 30).toInt = 0 from by omega), (show WrV cf63 (tf 6).toInt from hwr), (show (cf63 37).toInt = (cf 37).toInt from by omega), (show (cf63 38).toInt = (cf 38).toInt from by omega), (show (cf63 43).toInt = (cf 43).toInt from by omega), (show (cf63 44).toInt = (cf 44).toInt from by omega), (show (cf63 45).toInt = (cf 45).toInt from by omega), (show (cf63 46).toInt = (cf 46).toInt from by omega), (show (cf63 47).toInt = (cf 47).toInt from by omega), (show (cf63 41).toInt = (cf 41).toInt from by omega), (show (cf63 55).toInt = (cf 55).toInt from by omega), (show (cf63 59).toInt = (cf 59).toInt from by omega), (show (cf 33).toInt ≤ (cf63 33).toInt from by omega), (show 6 * (cf63 33).toInt ≤ 6 * (cf 33).toInt + (w) from by omega), (show (cf 48).toInt ≤ (cf63 48).toInt from by omega), (show 6 * (cf63 48).toInt ≤ 6 * (cf 48).toInt + (w) from by omega), (show (cf 54).toInt ≤ (cf63 54).toInt from by omega), (show (cf 42).toInt ≤ (cf63 42).toInt from by omega), (show (cf63 54).toInt - (cf 54).toInt ≤ 4 * ((cf63 42).toInt - (cf 42).toInt) from by omega), (show (cf63 54).toInt - (cf 54).toInt ≤ 4096 * ((cf63 48).toInt - (cf 48).toInt) from by omega), (show (cf63 42).toInt - (cf 42).toInt ≤ 4096 * ((cf63 48).toInt - (cf 48).toInt) from by omega), (show KnT (tf 6).toInt ca64 (cf63 33).toInt from (KnT.eq hkt (by omega))), (show KnS ca64 (cf63 33).toInt (cf63 48).toInt ys from (KnS.eq hks (by omega) (by omega))), (show CaG ca ca64 (cf 33).toInt (cf 48).toInt from (hcg.le (by omega) (by omega))), (show SyR ca64 ys (cf63 48).toInt (cf63 54).toInt tx from (SyR.eq hsr (by omega) (by omega))), (show Ann na ma0 ma62 from han), (show FrC lo hi ma ma62 from hfc), (show ZTe cf63 ta ca64 na ma0 (cf63 48).toInt ys nf ma62 lo hi p0 (tgv (cf 44).toInt (cf 45).toInt) from (ZTe.to hts_p0 (fun q => by omega) (by omega) (by omega) (by omega) rfl))⟩) d_Mpg_checkStatement_274
    · simp only [List.mem_cons, List.not_mem_nil, or_false] at c58
      refine lv_goto (tgt := 274) S.x S.b d_Mpg_checkStatement_84 (by decide) ?_
      exact px_vret S hr hlk hAe hw (Nat.le_of_ble_eq_true rfl) (Nat.le_of_ble_eq_true rfl) (⟨ma, cf, ca, rfl, (show (cf 30).toInt = 0 → (cf 30).toInt = 0 from by omega), (show WrV cf (tf 6).toInt from hwr), (show (cf 37).toInt = (cf 37).toInt from by omega), (show (cf 38).toInt = (cf 38).toInt from by omega), (show (cf 43).toInt = (cf 43).toInt from by omega), (show (cf 44).toInt = (cf 44).toInt from by omega), (show (cf 45).toInt = (cf 45).toInt from by omega), (show (cf 46).toInt = (cf 46).toInt from by omega), (show (cf 47).toInt = (cf 47).toInt from by omega), (show (cf 41).toInt = (cf 41).toInt from by omega), (show (cf 55).toInt = (cf 55).toInt from by omega), (show (cf 59).toInt = (cf 59).toInt from by omega), (show (cf 33).toInt ≤ (cf 33).toInt from by omega), (show 6 * (cf 33).toInt ≤ 6 * (cf 33).toInt + (w) from by omega), (show (cf 48).toInt ≤ (cf 48).toInt from by omega), (show 6 * (cf 48).toInt ≤ 6 * (cf 48).toInt + (w) from by omega), (show (cf 54).toInt ≤ (cf 54).toInt from by omega), (show (cf 42).toInt ≤ (cf 42).toInt from by omega), (show (cf 54).toInt - (cf 54).toInt ≤ 4 * ((cf 42).toInt - (cf 42).toInt) from by omega), (show (cf 54).toInt - (cf 54).toInt ≤ 4096 * ((cf 48).toInt - (cf 48).toInt) from by omega), (show (cf 42).toInt - (cf 42).toInt ≤ 4096 * ((cf 48).toInt - (cf 48).toInt) from by omega), (show KnT (tf 6).toInt ca (cf 33).toInt from (KnT.eq hkt (by omega))), (show KnS ca (cf 33).toInt (cf 48).toInt ys from (KnS.eq hks (by omega) (by omega))), (show CaG ca ca (cf 33).toInt (cf 48).toInt from (hcg.le (by omega) (by omega))), (show SyR ca ys (cf 48).toInt (cf 54).toInt tx from (SyR.eq hsr (by omega) (by omega))), (show Ann na ma0 ma from han), (show FrC lo hi ma ma from hfc), (show ZTe cf ta ca na ma0 (cf 48).toInt ys nf ma lo hi p0 (tgv (cf 44).toInt (cf 45).toInt) from (fun zz => by first | exact tys_0 ⟨by omega, by omega, by omega⟩ tgv_rng (by omega) | exact tys_j ⟨by omega, by omega, by omega⟩ (by omega) (tgv_4 (by omega)) | exact tys_31 ⟨by omega, by omega, by omega⟩ tgv_rng (by omega) (tgv_ge (by omega))))⟩) d_Mpg_checkStatement_274
    · simp only [List.mem_cons, List.not_mem_nil, or_false] at c58
      refine lv_aload_n S.x S.b d_Mpg_checkStatement_87 rfl (lv_at hl 0 rfl) ?_
      refine lv_aload_n S.x S.b d_Mpg_checkStatement_88 rfl (lv_at hl 0 rfl) ?_
      have hea := ScV.s22 hsc (by omega) (z := na 17 p0.toNatClampNeg) rfl
      refine px_get S k_Mpg hT hw 0 0 17 (v := .ref (r 17)) rfl rfl rfl (by decide) m10_1 d_Mpg_checkStatement_89 ?_
      refine lv_iload_n S.x S.b d_Mpg_checkStatement_92 rfl (lv_at hl 1 rfl) ?_
      refine px_iald S hT hw 0 13 (n := 2100) (f := (na 17)) rfl gp_17 (x := p0) (vp_in_iff.mpr (by constructor <;> omega)) d_Mpg_checkStatement_93 ?_
      refine lv_topi (fun z94 ez94 => ?_)
      have lz94 := Int32.le_toInt z94
      have uz94 := Int32.toInt_lt z94
      have ha_z94 : z94 = na 17 p0.toNatClampNeg := ez94; have hn_z94 : z94.toInt = (na 17 p0.toNatClampNeg).toInt := (by rw [ha_z94]); have hev_z94 : ErV ta (tf 6).toInt na ma0 d (p0.toInt + 1) hi (w - 1) z94 := (by rw [ha_z94]; exact hea); obtain ⟨hec_z94, h20_z94, hw_z94⟩ := hev_z94.ec; have hrg_z94 := EcV.rng hec_z94
      refine px_callv (pr := []) (px_runV (As := [.int z94]) (rest := []) S (c_mp_checkAlone l D cs ma0 ys (cf 48).toInt nf (cf 33).toInt d (p0.toInt + 1) hi h r g tf ta pf na wa ca ef ea xf xa ma cf z94  (show 0 ≤ (p0.toInt + 1) from by omega) (show hi ≤ (pf 13).toInt from by omega) (show (pf 13).toInt ≤ 2100 from by omega) (show (tf 6).toInt ≤ 2049 from by omega) (show (cf 33).toInt = (cf 33).toInt from by omega) (show 0 ≤ (cf 33).toInt from by omega) (show (cf 48).toInt = (cf 48).toInt from by omega) (show (cf 38).toInt = nf from by omega) (show 0 ≤ nf from by omega) htk (FsI.le (N' := (pf 13).toInt) hfs (by omega)) hwr (KnT.eq hkt (by omega)) (FnT.eq hft (by omega)) (KnS.eq hks (by omega) (by omega)) hfp han hec_z94 _) hT (pr := []) (pcs := [wdP cs h r g tf ta pf na ma wa cf ca ef ea xf xa]) hw (oX_call (P := (fun A U H => (oP A g U H))) (pr := []) oG_P hw hA hP) (px_recv hT hw 0 0 rfl rfl rfl) m12_213 m12_210 m12_212 ms_12_6 m1_21 q_Mpg_checkAlone ⟨show (4 * d + 13) + 1 ≤ (6 * (d + 1) + 26) from by omega, show 8 + (3 + 11) + (200 * d + 460) ≤ (260 * (d + 1) + 900) from by omega⟩ hl.1 rfl (Nat.le_of_ble_eq_true rfl) d_Mpg_checkStatement_94 ⟨Nat.le_of_ble_eq_true rfl, Nat.le_of_ble_eq_true rfl⟩) hw hA (fun p99 H locs hp99 hw => ?_)
      obtain ⟨ma97, cf98, rfl, e101, e102, e103, e104, e105, e106, e107, e108, e109, e110, e111⟩ := hp99
      have e101 : KpE cf cf98 := e101
      have hkz_e101 := e101.2
      have hkk37_e101 : (cf98 37).toInt = (cf 37).toInt := (by rw [e101.1 37 (by decide) (by decide) (by decide) (by decide) (by decide)] <;> rfl)
      have hkk43_e101 : (cf98 43).toInt = (cf 43).toInt := (by rw [e101.1 43 (by decide) (by decide) (by decide) (by decide) (by decide)] <;> rfl)
      have hkk44_e101 : (cf98 44).toInt = (cf 44).toInt := (by rw [e101.1 44 (by decide) (by decide) (by decide) (by decide) (by decide)] <;> rfl)
      have hkk45_e101 : (cf98 45).toInt = (cf 45).toInt := (by rw [e101.1 45 (by decide) (by decide) (by decide) (by decide) (by decide)] <;> rfl)
      have hkk41_e101 : (cf98 41).toInt = (cf 41).toInt := (by rw [e101.1 41 (by decide) (by decide) (by decide) (by decide) (by decide)] <;> rfl)
      have hkk55_e101 : (cf98 55).toInt = (cf 55).toInt := (by rw [e101.1 55 (by decide) (by decide) (by decide) (by decide) (by decide)] <;> rfl)
      have hkk59_e101 : (cf98 59).toInt = (cf 59).toInt := (by rw [e101.1 59 (by decide) (by decide) (by decide) (by decide) (by decide)] <;> rfl)
      have hkk42_e101 : (cf98 42).toInt = (cf 42).toInt := (by rw [e101.1 42 (by decide) (by decide) (by decide) (by decide) (by decide)] <;> rfl)
      have hkk54_e101 : (cf98 54).toInt = (cf 54).toInt := (by rw [e101.1 54 (by decide) (by decide) (by decide) (by decide) (by decide)] <;> rfl)
      have hkk58_e101 : (cf98 58).toInt = (cf 58).toInt := (by rw [e101.1 58 (by decide) (by decide) (by decide) (by decide) (by decide)] <;> rfl)
      have e102 : WrV cf98 (tf 6).toInt := e102
      have hwr := e102
      have hw0_e102 := hwr.1
      have e103 : (cf98 33).toInt = (cf 33).toInt := e103
      have e104 : (cf98 38).toInt = (cf 38).toInt := e104
      have e105 : (cf98 48).toInt = (cf 48).toInt := e105
      have e106 : (cf98 46).toInt = (cf 46).toInt := e106
      have e107 : (cf98 47).toInt = (cf 47).toInt := e107
      have e108 : (cf98 57).toInt = (cf 57).toInt := e108
      have e109 : Ann na ma0 ma97 := e109
      have han := e109
      have e110 : FrC (p0.toInt + 1) hi ma ma97 := e110
      have hfc := hfc.tr e110 (by omega) (by omega)
      have e111 : ZT0 cf98 (Gk ta ca na ma0 (cf 48).toInt ys nf) na ma97 (p0.toInt + 1) hi z94 := e111
      have hty_z94 : ZTe cf98 ta ca na ma0 (cf98 48).toInt ys nf ma97 (p0.toInt + 1) hi z94 0 := ZTe.to (t := 0) e111 (fun q => by omega) (by omega) (Int.le_refl _) (Int.le_refl _) rfl
      have hw : pw D A s.heap H locs [wdP cs h r g tf ta pf na ma97 wa cf98 ca ef ea xf xa] := hw
      refine lv_goto (tgt := 274) S.x S.b d_Mpg_checkStatement_97 (by decide) ?_
      exact px_vret S hr hlk hAe hw (Nat.le_of_ble_eq_true rfl) (Nat.le_of_ble_eq_true rfl) (⟨ma97, cf98, ca, rfl, (show (cf98 30).toInt = 0 → (cf 30).toInt = 0 from by omega), (show WrV cf98 (tf 6).toInt from hwr), (show (cf98 37).toInt = (cf 37).toInt from by omega), (show (cf98 38).toInt = (cf 38).toInt from by omega), (show (cf98 43).toInt = (cf 43).toInt from by omega), (show (cf98 44).toInt = (cf 44).toInt from by omega), (show (cf98 45).toInt = (cf 45).toInt from by omega), (show (cf98 46).toInt = (cf 46).toInt from by omega), (show (cf98 47).toInt = (cf 47).toInt from by omega), (show (cf98 41).toInt = (cf 41).toInt from by omega), (show (cf98 55).toInt = (cf 55).toInt from by omega), (show (cf98 59).toInt = (cf 59).toInt from by omega), (show (cf 33).toInt ≤ (cf98 33).toInt from by omega), (show 6 * (cf98 33).toInt ≤ 6 * (cf 33).toInt + (w) from by omega), (show (cf 48).toInt ≤ (cf98 48).toInt from by omega), (show 6 * (cf98 48).toInt ≤ 6 * (cf 48).toInt + (w) from by omega), (show (cf 54).toInt ≤ (cf98 54).toInt from by omega), (show (cf 42).toInt ≤ (cf98 42).toInt from by omega), (show (cf98 54).toInt - (cf 54).toInt ≤ 4 * ((cf98 42).toInt - (cf 42).toInt) from by omega), (show (cf98 54).toInt - (cf 54).toInt ≤ 4096 * ((cf98 48).toInt - (cf 48).toInt) from by omega), (show (cf98 42).toInt - (cf 42).toInt ≤ 4096 * ((cf98 48).toInt - (cf 48).toInt) from by omega), (show KnT (tf 6).toInt ca (cf98 33).toInt from (KnT.eq hkt (by omega))), (show KnS ca (cf98 33).toInt (cf98 48).toInt ys from (KnS.eq hks (by omega) (by omega))), (show CaG ca ca (cf 33).toInt (cf 48).toInt from (hcg.le (by omega) (by omega))), (show SyR ca ys (cf98 48).toInt (cf98 54).toInt tx from (SyR.eq hsr (by omega) (by omega))), (show Ann na ma0 ma97 from han), (show FrC lo hi ma ma97 from hfc), (show ZTe cf98 ta ca na ma0 (cf98 48).toInt ys nf ma97 lo hi p0 (tgv (cf 44).toInt (cf 45).toInt) from (fun zz => by exact tys_22 ⟨by omega, by omega, by omega⟩ tgv_rng (by omega) ha_z94 (ZTe.at hty_z94 (by omega) (by omega) (by omega) (by omega) rfl)))⟩) d_Mpg_checkStatement_274
    · simp only [List.mem_cons, List.not_mem_nil, or_false] at c58
      refine lv_aload_n S.x S.b d_Mpg_checkStatement_100 rfl (lv_at hl 0 rfl) ?_
      refine lv_iload_n S.x S.b d_Mpg_checkStatement_101 rfl (lv_at hl 1 rfl) ?_
      obtain ⟨h22, hrv_p0⟩ := ScV.s23 hsc (by omega) (z := na 17 p0.toNatClampNeg) rfl
      refine lv_iconst (v := 0) S.x S.b d_Mpg_checkStatement_102 (by decide) ?_
      refine px_callv (pr := []) (px_runV (As := [.int p0, .int 0]) (rest := []) S (c_mp_declare l D cs ma0 ys nf tx d lo hi w 5 h r g tf ta pf na wa ef ea xf xa ma cf ca p0 0  (show 0 ≤ lo from by omega) (show hi ≤ (pf 13).toInt from by omega) (show (pf 13).toInt ≤ 2100 from by omega) (show (tf 6).toInt ≤ 2049 from by omega) (show 0 ≤ (cf 33).toInt from by omega) (show 0 ≤ w from by omega) (show 6 * (cf 33).toInt + w ≤ 6540 from by omega) (show 0 ≤ (cf 48).toInt from by omega) (show 6 * (cf 48).toInt + w ≤ 6540 from by omega) (show (cf 38).toInt = nf from by omega) (show 0 ≤ nf from by omega) (show 0 ≤ (cf 37).toInt from by omega) (show 0 ≤ (cf 54).toInt from by omega) (show (cf 54).toInt ≤ 4096 * (cf 48).toInt from by omega) (show 0 ≤ (cf 42).toInt from by omega) (show (cf 42).toInt ≤ 4 + 4096 * (cf 48).toInt from by omega) (show 0 ≤ (cf 44).toInt from by omega) (show 0 ≤ (cf 45).toInt from by omega) (show ys ≤ (cf 48).toInt ∨ tx = 1 from by omega) (show 0 ≤ (cf 46).toInt from by omega) (show (cf 46).toInt ≤ 1 from by omega) (show 0 ≤ (cf 47).toInt from by omega) (show (cf 47).toInt ≤ 1 from by omega) (show 0 ≤ p0.toInt from by omega) (show lo ≤ p0.toInt from by omega) (show p0.toInt < hi from by omega) (show (na 14 p0.toNatClampNeg).toInt = 23 from by omega) (show ((0 : Int) = 1 ∧ 5 = 6 ∧ tx = 1) ∨ ((0 : Int) = 0 ∧ 5 = 5 ∧ tx = 0) from by omega) htk (FsI.le (N' := (pf 13).toInt) hfs (by omega)) hwr (KnT.eq hkt (by omega)) (FnT.eq hft (by omega)) (KnS.eq hks (by omega) (by omega)) hfp (SyR.eq hsr (by omega) (by omega)) han (show txo (cf 43).toInt = tx from by rw [show (cf 43).toInt = (cf 43).toInt by omega]; exact htx) hrv_p0 _) hT (pr := []) (pcs := [wdP cs h r g tf ta pf na ma wa cf ca ef ea xf xa]) hw (oX_call (P := (fun A U H => (oP A g U H))) (pr := []) oG_P hw hA hP) (px_recv hT hw 0 0 rfl rfl rfl) m13_29 m13_26 m13_28 ms_13_4 m1_21 q_Mpg_declare ⟨show (4 * d + 22) + 1 ≤ (6 * (d + 1) + 26) from by omega, show 8 + (5 + 11) + (200 * d + 780) ≤ (260 * (d + 1) + 900) from by omega⟩ hl.1 rfl (Nat.le_of_ble_eq_true rfl) d_Mpg_checkStatement_103 ⟨Nat.le_of_ble_eq_true rfl, Nat.le_of_ble_eq_true rfl⟩) hw hA (fun p118 H locs hp118 hw => ?_)
      obtain ⟨ma115, cf116, ca117, rfl, e120, e121, e122, e123, e124, e125, e126, e127, e128, e129, e130, e131, e132, e133, e134, e135, e136, e137, e138, e139, e140, e141, e142, e143, e144, e145, e146, e147, e148⟩ := hp118
      have e120 : (cf116 30).toInt = 0 → (cf 30).toInt = 0 := e120
      have e121 : WrV cf116 (tf 6).toInt := e121
      have hwr := e121
      have hw0_e121 := hwr.1
      have e122 : (cf116 37).toInt = (cf 37).toInt := e122
      have e123 : (cf116 38).toInt = (cf 38).toInt := e123
      have e124 : (cf116 43).toInt = (cf 43).toInt := e124
      have e125 : (cf116 44).toInt = (cf 44).toInt := e125
      have e126 : (cf116 45).toInt = (cf 45).toInt := e126
      have e127 : (cf116 46).toInt = (cf 46).toInt := e127
      have e128 : (cf116 47).toInt = (cf 47).toInt := e128
      have e129 : (cf116 41).toInt = (cf 41).toInt := e129
      have e130 : (cf116 55).toInt = (cf 55).toInt := e130
      have e131 : (cf116 59).toInt = (cf 59).toInt := e131
      have e132 : (cf 33).toInt ≤ (cf116 33).toInt := e132
      have e133 : 6 * (cf116 33).toInt ≤ 6 * (cf 33).toInt + (w) := e133
      have e134 : (cf 48).toInt ≤ (cf116 48).toInt := e134
      have e135 : 6 * (cf116 48).toInt ≤ 6 * (cf 48).toInt + (w) := e135
      have e136 : (cf 54).toInt ≤ (cf116 54).toInt := e136
      have e137 : (cf 42).toInt ≤ (cf116 42).toInt := e137
      have e138 : (cf116 54).toInt - (cf 54).toInt ≤ 4 * ((cf116 42).toInt - (cf 42).toInt) := e138
      have e139 : (cf116 54).toInt - (cf 54).toInt ≤ 4096 * ((cf116 48).toInt - (cf 48).toInt) := e139
      have e140 : (cf116 42).toInt - (cf 42).toInt ≤ 4096 * ((cf116 48).toInt - (cf 48).toInt) := e140
      have e141 : KnT (tf 6).toInt ca117 (cf116 33).toInt := e141
      have hkt := e141
      have hk11_e141 := hkt.1
      have e142 : KnS ca117 (cf116 33).toInt (cf116 48).toInt ys := e142
      have hks := e142
      have e143 : CaG ca ca117 (cf 33).toInt (cf 48).toInt := e143
      have hcg := hcg.tr e143 (by omega) (by omega)
      have hft := hft.cg e143
      have hfp := hfp.cg e143
      have e144 : SyR ca117 ys (cf116 48).toInt (cf116 54).toInt tx := e144
      have hsr := e144
      have e145 : Ann na ma0 ma115 := e145
      have han := e145
      have e146 : FrC lo hi ma ma115 := e146
      have hfc := hfc.tr e146 (by omega) (by omega)
      have e147 : Sy3 ca117 (cf 48).toInt (cf116 48).toInt := e147
      have e148 : ZTw cf116 ta ca117 na ma0 (cf116 48).toInt ys nf ma115 lo hi (na 17 p0.toNatClampNeg) 5 := e148
      have hzw : ZTw cf116 ta ca117 na ma0 (cf116 48).toInt ys nf ma115 lo hi (na 17 p0.toNatClampNeg) 5 := ZTw.to e148 (fun q => by omega) (by omega) (Int.le_refl _) (Int.le_refl _) rfl
      have hw : pw D A s.heap H locs [wdP cs h r g tf ta pf na ma115 wa cf116 ca117 ef ea xf xa] := hw
      refine lv_goto (tgt := 274) S.x S.b d_Mpg_checkStatement_106 (by decide) ?_
      exact px_vret S hr hlk hAe hw (Nat.le_of_ble_eq_true rfl) (Nat.le_of_ble_eq_true rfl) (⟨ma115, cf116, ca117, rfl, (show (cf116 30).toInt = 0 → (cf 30).toInt = 0 from by omega), (show WrV cf116 (tf 6).toInt from hwr), (show (cf116 37).toInt = (cf 37).toInt from by omega), (show (cf116 38).toInt = (cf 38).toInt from by omega), (show (cf116 43).toInt = (cf 43).toInt from by omega), (show (cf116 44).toInt = (cf 44).toInt from by omega), (show (cf116 45).toInt = (cf 45).toInt from by omega), (show (cf116 46).toInt = (cf 46).toInt from by omega), (show (cf116 47).toInt = (cf 47).toInt from by omega), (show (cf116 41).toInt = (cf 41).toInt from by omega), (show (cf116 55).toInt = (cf 55).toInt from by omega), (show (cf116 59).toInt = (cf 59).toInt from by omega), (show (cf 33).toInt ≤ (cf116 33).toInt from by omega), (show 6 * (cf116 33).toInt ≤ 6 * (cf 33).toInt + (w) from by omega), (show (cf 48).toInt ≤ (cf116 48).toInt from by omega), (show 6 * (cf116 48).toInt ≤ 6 * (cf 48).toInt + (w) from by omega), (show (cf 54).toInt ≤ (cf116 54).toInt from by omega), (show (cf 42).toInt ≤ (cf116 42).toInt from by omega), (show (cf116 54).toInt - (cf 54).toInt ≤ 4 * ((cf116 42).toInt - (cf 42).toInt) from by omega), (show (cf116 54).toInt - (cf 54).toInt ≤ 4096 * ((cf116 48).toInt - (cf 48).toInt) from by omega), (show (cf116 42).toInt - (cf 42).toInt ≤ 4096 * ((cf116 48).toInt - (cf 48).toInt) from by omega), (show KnT (tf 6).toInt ca117 (cf116 33).toInt from (KnT.eq hkt (by omega))), (show KnS ca117 (cf116 33).toInt (cf116 48).toInt ys from (KnS.eq hks (by omega) (by omega))), (show CaG ca ca117 (cf 33).toInt (cf 48).toInt from (hcg.le (by omega) (by omega))), (show SyR ca117 ys (cf116 48).toInt (cf116 54).toInt tx from (SyR.eq hsr (by omega) (by omega))), (show Ann na ma0 ma115 from han), (show FrC lo hi ma ma115 from hfc), (show ZTe cf116 ta ca117 na ma0 (cf116 48).toInt ys nf ma115 lo hi p0 (tgv (cf 44).toInt (cf 45).toInt) from (fun zz => (ZTw.at hzw (by omega) (by omega) (by omega) (by omega) rfl).elim fun k9 g9 => tys_23 ⟨by omega, by omega, by omega⟩ tgv_rng (by omega) rfl g9.2 g9.1))⟩) d_Mpg_checkStatement_274
    · simp only [List.mem_cons, List.not_mem_nil, or_false] at c58
      refine lv_aload_n S.x S.b d_Mpg_checkStatement_109 rfl (lv_at hl 0 rfl) ?_
      refine lv_aload_n S.x S.b d_Mpg_checkStatement_110 rfl (lv_at hl 0 rfl) ?_
      obtain ⟨m1, m2, w1, w2, w3, hm1, hm2, hm3, hea, hsb, hoc, hx24, hws, hw1, hw2, hw3⟩ := ScV.s24 hsc (by omega) (z := na 17 p0.toNatClampNeg) (y := ma0 18 p0.toNatClampNeg) (x := ma0 19 p0.toNatClampNeg) rfl rfl rfl
      refine px_get S k_Mpg hT hw 0 0 17 (v := .ref (r 17)) rfl rfl rfl (by decide) m10_1 d_Mpg_checkStatement_111 ?_
      refine lv_iload_n S.x S.b d_Mpg_checkStatement_114 rfl (lv_at hl 1 rfl) ?_
      refine px_iald S hT hw 0 13 (n := 2100) (f := (na 17)) rfl gp_17 (x := p0) (vp_in_iff.mpr (by constructor <;> omega)) d_Mpg_checkStatement_115 ?_
      refine lv_topi (fun z149 ez149 => ?_)
      have lz149 := Int32.le_toInt z149
      have uz149 := Int32.toInt_lt z149
      have ha_z149 : z149 = na 17 p0.toNatClampNeg := ez149; have hn_z149 : z149.toInt = (na 17 p0.toNatClampNeg).toInt := (by rw [ha_z149]); have hev_z149 : ErV ta (tf 6).toInt na ma0 d (p0.toInt + 1) m1 w1 z149 := (by rw [ha_z149]; exact hea); obtain ⟨hec_z149, h20_z149, hw_z149⟩ := hev_z149.ec; have hrg_z149 := EcV.rng hec_z149
      refine lv_iconst (v := 1) S.x S.b d_Mpg_checkStatement_116 (by decide) ?_
      refine px_calli (pr := []) (px_runV (As := [.int z149, .int 1]) (rest := []) S (c_S_check l D cs ma0 ys (cf 48).toInt nf (cf 33).toInt d (p0.toInt + 1) m1 h r g tf ta pf na wa ca ef ea xf xa ma cf z149 1  (show 0 ≤ (p0.toInt + 1) from by omega) (show m1 ≤ (pf 13).toInt from by omega) (show (pf 13).toInt ≤ 2100 from by omega) (show (tf 6).toInt ≤ 2049 from by omega) (show (cf 33).toInt = (cf 33).toInt from by omega) (show 0 ≤ (cf 33).toInt from by omega) (show (cf 48).toInt = (cf 48).toInt from by omega) (show (cf 38).toInt = nf from by omega) (show 0 ≤ nf from by omega) (show 0 ≤ (1 : Int) from by omega) (show (1 : Int) ≤ 1 from by omega) htk (FsI.le (N' := (pf 13).toInt) hfs (by omega)) hwr (KnT.eq hkt (by omega)) (FnT.eq hft (by omega)) (KnS.eq hks (by omega) (by omega)) hfp han hec_z149 _) hT (pr := []) (pcs := [wdP cs h r g tf ta pf na ma wa cf ca ef ea xf xa]) hw (oX_call (P := (fun A U H => (oP A g U H))) (pr := []) oG_P hw hA hP) (px_recv hT hw 0 0 rfl rfl rfl) m12_217 m12_214 m12_216 ms_12_7 m1_21 q_Mpg_check ⟨show (4 * d + 12) + 1 ≤ (6 * (d + 1) + 26) from by omega, show 8 + (8 + 11) + (200 * d + 420) ≤ (260 * (d + 1) + 900) from by omega⟩ hl.1 rfl (Nat.le_of_ble_eq_true rfl) d_Mpg_checkStatement_117 ⟨Nat.le_of_ble_eq_true rfl, Nat.le_of_ble_eq_true rfl⟩) hw hA (fun v155 p154 H locs hp154 hw => ?_)
      obtain ⟨ma152, cf153, rfl, e156, e157, e158, e159, e160, e161, e162, e163, e164, e165, e166, e167, e168, e169, e170⟩ := hp154
      have e156 : KpE cf cf153 := e156
      have hkz_e156 := e156.2
      have hkk37_e156 : (cf153 37).toInt = (cf 37).toInt := (by rw [e156.1 37 (by decide) (by decide) (by decide) (by decide) (by decide)] <;> rfl)
      have hkk43_e156 : (cf153 43).toInt = (cf 43).toInt := (by rw [e156.1 43 (by decide) (by decide) (by decide) (by decide) (by decide)] <;> rfl)
      have hkk44_e156 : (cf153 44).toInt = (cf 44).toInt := (by rw [e156.1 44 (by decide) (by decide) (by decide) (by decide) (by decide)] <;> rfl)
      have hkk45_e156 : (cf153 45).toInt = (cf 45).toInt := (by rw [e156.1 45 (by decide) (by decide) (by decide) (by decide) (by decide)] <;> rfl)
      have hkk41_e156 : (cf153 41).toInt = (cf 41).toInt := (by rw [e156.1 41 (by decide) (by decide) (by decide) (by decide) (by decide)] <;> rfl)
      have hkk55_e156 : (cf153 55).toInt = (cf 55).toInt := (by rw [e156.1 55 (by decide) (by decide) (by decide) (by decide) (by decide)] <;> rfl)
      have hkk59_e156 : (cf153 59).toInt = (cf 59).toInt := (by rw [e156.1 59 (by decide) (by decide) (by decide) (by decide) (by decide)] <;> rfl)
      have hkk42_e156 : (cf153 42).toInt = (cf 42).toInt := (by rw [e156.1 42 (by decide) (by decide) (by decide) (by decide) (by decide)] <;> rfl)
      have hkk54_e156 : (cf153 54).toInt = (cf 54).toInt := (by rw [e156.1 54 (by decide) (by decide) (by decide) (by decide) (by decide)] <;> rfl)
      have hkk58_e156 : (cf153 58).toInt = (cf 58).toInt := (by rw [e156.1 58 (by decide) (by decide) (by decide) (by decide) (by decide)] <;> rfl)
      have e157 : WrV cf153 (tf 6).toInt := e157
      have hwr := e157
      have hw0_e157 := hwr.1
      have e158 : (cf153 33).toInt = (cf 33).toInt := e158
      have e159 : (cf153 38).toInt = (cf 38).toInt := e159
      have e160 : (cf153 48).toInt = (cf 48).toInt := e160
      have e161 : (cf153 46).toInt = (cf 46).toInt := e161
      have e162 : (cf153 47).toInt = (cf 47).toInt := e162
      have e163 : (cf153 57).toInt = (cf 57).toInt := e163
      have e164 : Ann na ma0 ma152 := e164
      have han := e164
      have e165 : FrC (p0.toInt + 1) m1 ma ma152 := e165
      have hfc := hfc.tr e165 (by omega) (by omega)
      have e166 : 0 ≤ v155.toInt := e166
      have e167 : v155.toInt ≤ 4 := e167
      have e168 : NmJ ta ca na ma152 (cf 33).toInt z149 v155.toInt := e168
      have e169 : ZTy cf153 (Gk ta ca na ma0 (cf 48).toInt ys nf) na ma152 (p0.toInt + 1) m1 z149 v155.toInt := e169
      have e170 : ZNm cf153 (1 : Int) v155.toInt := e170
      have hty_z149 : ZTe cf153 ta ca na ma0 (cf153 48).toInt ys nf ma152 (p0.toInt + 1) m1 z149 0 := ZTe.to (t := 0) (ZTy.num e169 e170) (fun q => by omega) (by omega) (Int.le_refl _) (Int.le_refl _) rfl
      have hw : pw D A s.heap H locs [wdP cs h r g tf ta pf na ma152 wa cf153 ca ef ea xf xa] := hw
      have lv155 := Int32.le_toInt v155
      have uv155 := Int32.toInt_lt v155
      refine lv_pop S.x S.b d_Mpg_checkStatement_120 rfl ?_
      refine lv_aload_n S.x S.b d_Mpg_checkStatement_121 rfl (lv_at hl 0 rfl) ?_
      refine lv_aload_n S.x S.b d_Mpg_checkStatement_122 rfl (lv_at hl 0 rfl) ?_
      refine px_get S k_Mpg hT hw 0 0 18 (v := .ref (r 18)) rfl rfl rfl (by decide) m10_3 d_Mpg_checkStatement_123 ?_
      refine lv_iload_n S.x S.b d_Mpg_checkStatement_126 rfl (lv_at hl 1 rfl) ?_
      refine px_iald S hT hw 0 14 (n := 2100) (f := (ma152 18)) rfl gp_18 (x := p0) (vp_in_iff.mpr (by constructor <;> omega)) d_Mpg_checkStatement_127 ?_
      refine lv_topi (fun z171 ez171 => ?_)
      have lz171 := Int32.le_toInt z171
      have uz171 := Int32.toInt_lt z171
      have ha_z171 : z171 = ma0 18 p0.toNatClampNeg := ez171.trans (Ann.b18 han (by omega)); have hn_z171 : z171.toInt = (ma0 18 p0.toNatClampNeg).toInt := (by rw [ha_z171]); have hsc_z171 : ScV ta (tf 6).toInt na ma0 d m1 m2 w2 z171 := (by rw [ha_z171]; exact hsb); have hrg_z171 := ScV.rng hsc_z171
      refine px_callv (pr := []) (px_runV (As := [.int z171]) (rest := []) S (hLS ma0 ys nf tx m1 m2 w2 h r g tf ta pf na wa ef ea xf xa ma152 cf153 ca z171 (show 0 ≤ m1 from by omega) (show m2 ≤ (pf 13).toInt from by omega) (show (pf 13).toInt ≤ 2100 from by omega) (show (tf 6).toInt ≤ 2049 from by omega) (show 0 ≤ (cf153 33).toInt from by omega) (show 0 ≤ w2 from by omega) (show 6 * (cf153 33).toInt + w2 ≤ 6540 from by omega) (show 0 ≤ (cf153 48).toInt from by omega) (show 6 * (cf153 48).toInt + w2 ≤ 6540 from by omega) (show (cf153 38).toInt = nf from by omega) (show 0 ≤ nf from by omega) (show 0 ≤ (cf153 37).toInt from by omega) (show 0 ≤ (cf153 54).toInt from by omega) (show (cf153 54).toInt ≤ 4096 * (cf153 48).toInt from by omega) (show 0 ≤ (cf153 42).toInt from by omega) (show (cf153 42).toInt ≤ 4 + 4096 * (cf153 48).toInt from by omega) (show 0 ≤ (cf153 44).toInt from by omega) (show 0 ≤ (cf153 45).toInt from by omega) (show ys ≤ (cf153 48).toInt ∨ tx = 1 from by omega) (show 0 ≤ (cf153 46).toInt from by omega) (show (cf153 46).toInt ≤ 1 from by omega) (show 0 ≤ (cf153 47).toInt from by omega) (show (cf153 47).toInt ≤ 1 from by omega) (show (cf153 44).toInt + (d : Int) ≤ 400 from by omega) (show (cf153 45).toInt + (d : Int) ≤ 400 from by omega) (show 0 ≤ (cf153 43).toInt from by omega) (show (cf153 43).toInt < 2100 from by omega) (show tx = 0 from by omega) htk (FsI.le (N' := (pf 13).toInt) hfs (by omega)) hwr (KnT.eq hkt (by omega)) (FnT.eq hft (by omega)) (KnS.eq hks (by omega) (by omega)) hfp (SyR.eq hsr (by omega) (by omega)) han (show txo (cf153 43).toInt = tx from by rw [show (cf153 43).toInt = (cf 43).toInt by omega]; exact htx) hsc_z171 _) hT (pr := []) (pcs := [wdP cs h r g tf ta pf na ma152 wa cf153 ca ef ea xf xa]) hw (oX_call (P := (fun A U H => (oP A g U H))) (pr := []) oG_P hw hA hP) (px_recv hT hw 0 0 rfl rfl rfl) m12_201 m12_198 m12_200 ms_12_3 m1_21 q_Mpg_checkStatement ⟨show (6 * d + 26) + 1 ≤ (6 * (d + 1) + 26) from by omega, show 8 + (3 + 11) + (260 * d + 900) ≤ (260 * (d + 1) + 900) from by omega⟩ hl.1 rfl (Nat.le_of_ble_eq_true rfl) d_Mpg_checkStatement_128 ⟨Nat.le_of_ble_eq_true rfl, Nat.le_of_ble_eq_true rfl⟩) hw hA (fun p178 H locs hp178 hw => ?_)
      obtain ⟨ma175, cf176, ca177, rfl, e180, e181, e182, e183, e184, e185, e186, e187, e188, e189, e190, e191, e192, e193, e194, e195, e196, e197, e198, e199, e200, e201, e202, e203, e204, e205, e206, e207⟩ := hp178
      have e180 : (cf176 30).toInt = 0 → (cf153 30).toInt = 0 := e180
      have e181 : WrV cf176 (tf 6).toInt := e181
      have hwr := e181
      have hw0_e181 := hwr.1
      have e182 : (cf176 37).toInt = (cf153 37).toInt := e182
      have e183 : (cf176 38).toInt = (cf153 38).toInt := e183
      have e184 : (cf176 43).toInt = (cf153 43).toInt := e184
      have e185 : (cf176 44).toInt = (cf153 44).toInt := e185
      have e186 : (cf176 45).toInt = (cf153 45).toInt := e186
      have e187 : (cf176 46).toInt = (cf153 46).toInt := e187
      have e188 : (cf176 47).toInt = (cf153 47).toInt := e188
      have e189 : (cf176 41).toInt = (cf153 41).toInt := e189
      have e190 : (cf176 55).toInt = (cf153 55).toInt := e190
      have e191 : (cf176 59).toInt = (cf153 59).toInt := e191
      have e192 : (cf153 33).toInt ≤ (cf176 33).toInt := e192
      have e193 : 6 * (cf176 33).toInt ≤ 6 * (cf153 33).toInt + (w2) := e193
      have e194 : (cf153 48).toInt ≤ (cf176 48).toInt := e194
      have e195 : 6 * (cf176 48).toInt ≤ 6 * (cf153 48).toInt + (w2) := e195
      have e196 : (cf153 54).toInt ≤ (cf176 54).toInt := e196
      have e197 : (cf153 42).toInt ≤ (cf176 42).toInt := e197
      have e198 : (cf176 54).toInt - (cf153 54).toInt ≤ 4 * ((cf176 42).toInt - (cf153 42).toInt) := e198
      have e199 : (cf176 54).toInt - (cf153 54).toInt ≤ 4096 * ((cf176 48).toInt - (cf153 48).toInt) := e199
      have e200 : (cf176 42).toInt - (cf153 42).toInt ≤ 4096 * ((cf176 48).toInt - (cf153 48).toInt) := e200
      have e201 : KnT (tf 6).toInt ca177 (cf176 33).toInt := e201
      have hkt := e201
      have hk11_e201 := hkt.1
      have e202 : KnS ca177 (cf176 33).toInt (cf176 48).toInt ys := e202
      have hks := e202
      have e203 : CaG ca ca177 (cf153 33).toInt (cf153 48).toInt := e203
      have hcg := hcg.tr e203 (by omega) (by omega)
      have hft := hft.cg e203
      have hfp := hfp.cg e203
      have e204 : SyR ca177 ys (cf176 48).toInt (cf176 54).toInt tx := e204
      have hsr := e204
      have e205 : Ann na ma0 ma175 := e205
      have han := e205
      have e206 : FrC m1 m2 ma152 ma175 := e206
      have hfc := hfc.tr e206 (by omega) (by omega)
      have hty_z149 : ZTe cf176 ta ca177 na ma0 (cf176 48).toInt ys nf ma175 (p0.toInt + 1) m1 z149 0 := ZTe.tr hty_z149 (fun q => by omega) e206 (by omega) e203 (by omega) (by omega)
      have e207 : ZTe cf176 ta ca177 na ma0 (cf176 48).toInt ys nf ma175 m1 m2 z171 (tgv (cf153 44).toInt (cf153 45).toInt) := e207
      have hts_z171 : ZTe cf176 ta ca177 na ma0 (cf176 48).toInt ys nf ma175 m1 m2 z171 (tgv (cf 44).toInt (cf 45).toInt) := ZTe.to e207 (fun q => by omega) (by omega) (Int.le_refl _) (Int.le_refl _) (by congr 1 <;> omega)
      have hw : pw D A s.heap H locs [wdP cs h r g tf ta pf na ma175 wa cf176 ca177 ef ea xf xa] := hw
      refine lv_aload_n S.x S.b d_Mpg_checkStatement_131 rfl (lv_at hl 0 rfl) ?_
      refine px_get S k_Mpg hT hw 0 0 19 (v := .ref (r 19)) rfl rfl rfl (by decide) m10_5 d_Mpg_checkStatement_132 ?_
      refine lv_iload_n S.x S.b d_Mpg_checkStatement_135 rfl (lv_at hl 1 rfl) ?_
      refine px_iald S hT hw 0 15 (n := 2100) (f := (ma175 19)) rfl gp_19 (x := p0) (vp_in_iff.mpr (by constructor <;> omega)) d_Mpg_checkStatement_136 ?_
      refine lv_topi (fun z208 ez208 => ?_)
      have lz208 := Int32.le_toInt z208
      have uz208 := Int32.toInt_lt z208
      have ha_z208 : z208 = ma0 19 p0.toNatClampNeg := ez208.trans (Ann.b19 han (by omega)); have hn_z208 : z208.toInt = (ma0 19 p0.toNatClampNeg).toInt := (by rw [ha_z208])
      refine lv_if_lt (tgt := 274) S.x S.b d_Mpg_checkStatement_137 (by decide) (fun c209 => ?_) (fun c209 => ?_)
      · have nc209 : z208.toInt < (0 : Int) := (i_lt (x := z208) (y := 0)).mp c209
        exact px_vret S hr hlk hAe hw (Nat.le_of_ble_eq_true rfl) (Nat.le_of_ble_eq_true rfl) (⟨ma175, cf176, ca177, rfl, (show (cf176 30).toInt = 0 → (cf 30).toInt = 0 from by omega), (show WrV cf176 (tf 6).toInt from hwr), (show (cf176 37).toInt = (cf 37).toInt from by omega), (show (cf176 38).toInt = (cf 38).toInt from by omega), (show (cf176 43).toInt = (cf 43).toInt from by omega), (show (cf176 44).toInt = (cf 44).toInt from by omega), (show (cf176 45).toInt = (cf 45).toInt from by omega), (show (cf176 46).toInt = (cf 46).toInt from by omega), (show (cf176 47).toInt = (cf 47).toInt from by omega), (show (cf176 41).toInt = (cf 41).toInt from by omega), (show (cf176 55).toInt = (cf 55).toInt from by omega), (show (cf176 59).toInt = (cf 59).toInt from by omega), (show (cf 33).toInt ≤ (cf176 33).toInt from by omega), (show 6 * (cf176 33).toInt ≤ 6 * (cf 33).toInt + (w) from by omega), (show (cf 48).toInt ≤ (cf176 48).toInt from by omega), (show 6 * (cf176 48).toInt ≤ 6 * (cf 48).toInt + (w) from by omega), (show (cf 54).toInt ≤ (cf176 54).toInt from by omega), (show (cf 42).toInt ≤ (cf176 42).toInt from by omega), (show (cf176 54).toInt - (cf 54).toInt ≤ 4 * ((cf176 42).toInt - (cf 42).toInt) from by omega), (show (cf176 54).toInt - (cf 54).toInt ≤ 4096 * ((cf176 48).toInt - (cf 48).toInt) from by omega), (show (cf176 42).toInt - (cf 42).toInt ≤ 4096 * ((cf176 48).toInt - (cf 48).toInt) from by omega), (show KnT (tf 6).toInt ca177 (cf176 33).toInt from (KnT.eq hkt (by omega))), (show KnS ca177 (cf176 33).toInt (cf176 48).toInt ys from (KnS.eq hks (by omega) (by omega))), (show CaG ca ca177 (cf 33).toInt (cf 48).toInt from (hcg.le (by omega) (by omega))), (show SyR ca177 ys (cf176 48).toInt (cf176 54).toInt tx from (SyR.eq hsr (by omega) (by omega))), (show Ann na ma0 ma175 from han), (show FrC lo hi ma ma175 from hfc), (show ZTe cf176 ta ca177 na ma0 (cf176 48).toInt ys nf ma175 lo hi p0 (tgv (cf 44).toInt (cf 45).toInt) from (fun zz => by exact tys_24 ⟨by omega, by omega, by omega⟩ tgv_rng (by omega) ha_z149 (ha_z171.trans (Ann.b18 han (by omega)).symm) (ha_z208.trans (Ann.b19 han (by omega)).symm) (ZTe.at hty_z149 (by omega) (by omega) (by omega) (by omega) rfl) (ZTe.at hts_z171 (by omega) (by omega) (by omega) (by omega) rfl) (Or.inl (by omega))))⟩) d_Mpg_checkStatement_274
      · have nc209 : ¬ z208.toInt < (0 : Int) := mt (i_lt (x := z208) (y := 0)).mpr c209
        refine lv_aload_n S.x S.b d_Mpg_checkStatement_140 rfl (lv_at hl 0 rfl) ?_
        refine lv_aload_n S.x S.b d_Mpg_checkStatement_141 rfl (lv_at hl 0 rfl) ?_
        refine px_get S k_Mpg hT hw 0 0 19 (v := .ref (r 19)) rfl rfl rfl (by decide) m10_5 d_Mpg_checkStatement_142 ?_
        refine lv_iload_n S.x S.b d_Mpg_checkStatement_145 rfl (lv_at hl 1 rfl) ?_
        refine px_iald S hT hw 0 15 (n := 2100) (f := (ma175 19)) rfl gp_19 (x := p0) (vp_in_iff.mpr (by constructor <;> omega)) d_Mpg_checkStatement_146 ?_
        refine lv_topi (fun z210 ez210 => ?_)
        have lz210 := Int32.le_toInt z210
        have uz210 := Int32.toInt_lt z210
        have ha_z210 : z210 = ma0 19 p0.toNatClampNeg := ez210.trans (Ann.b19 han (by omega)); have hn_z210 : z210.toInt = (ma0 19 p0.toNatClampNeg).toInt := (by rw [ha_z210]); have hsc_z210 : ScV ta (tf 6).toInt na ma0 d m2 hi w3 z210 := (by rw [ha_z210]; exact (hoc.get (by omega))); have hrg_z210 := ScV.rng hsc_z210
        refine px_callv (pr := []) (px_runV (As := [.int z210]) (rest := []) S (hLS ma0 ys nf tx m2 hi w3 h r g tf ta pf na wa ef ea xf xa ma175 cf176 ca177 z210 (show 0 ≤ m2 from by omega) (show hi ≤ (pf 13).toInt from by omega) (show (pf 13).toInt ≤ 2100 from by omega) (show (tf 6).toInt ≤ 2049 from by omega) (show 0 ≤ (cf176 33).toInt from by omega) (show 0 ≤ w3 from by omega) (show 6 * (cf176 33).toInt + w3 ≤ 6540 from by omega) (show 0 ≤ (cf176 48).toInt from by omega) (show 6 * (cf176 48).toInt + w3 ≤ 6540 from by omega) (show (cf176 38).toInt = nf from by omega) (show 0 ≤ nf from by omega) (show 0 ≤ (cf176 37).toInt from by omega) (show 0 ≤ (cf176 54).toInt from by omega) (show (cf176 54).toInt ≤ 4096 * (cf176 48).toInt from by omega) (show 0 ≤ (cf176 42).toInt from by omega) (show (cf176 42).toInt ≤ 4 + 4096 * (cf176 48).toInt from by omega) (show 0 ≤ (cf176 44).toInt from by omega) (show 0 ≤ (cf176 45).toInt from by omega) (show ys ≤ (cf176 48).toInt ∨ tx = 1 from by omega) (show 0 ≤ (cf176 46).toInt from by omega) (show (cf176 46).toInt ≤ 1 from by omega) (show 0 ≤ (cf176 47).toInt from by omega) (show (cf176 47).toInt ≤ 1 from by omega) (show (cf176 44).toInt + (d : Int) ≤ 400 from by omega) (show (cf176 45).toInt + (d : Int) ≤ 400 from by omega) (show 0 ≤ (cf176 43).toInt from by omega) (show (cf176 43).toInt < 2100 from by omega) (show tx = 0 from by omega) htk (FsI.le (N' := (pf 13).toInt) hfs (by omega)) hwr (KnT.eq hkt (by omega)) (FnT.eq hft (by omega)) (KnS.eq hks (by omega) (by omega)) hfp (SyR.eq hsr (by omega) (by omega)) han (show txo (cf176 43).toInt = tx from by rw [show (cf176 43).toInt = (cf 43).toInt by omega]; exact htx) hsc_z210 _) hT (pr := []) (pcs := [wdP cs h r g tf ta pf na ma175 wa cf176 ca177 ef ea xf xa]) hw (oX_call (P := (fun A U H => (oP A g U H))) (pr := []) oG_P hw hA hP) (px_recv hT hw 0 0 rfl rfl rfl) m12_201 m12_198 m12_200 ms_12_3 m1_21 q_Mpg_checkStatement ⟨show (6 * d + 26) + 1 ≤ (6 * (d + 1) + 26) from by omega, show 8 + (3 + 11) + (260 * d + 900) ≤ (260 * (d + 1) + 900) from by omega⟩ hl.1 rfl (Nat.le_of_ble_eq_true rfl) d_Mpg_checkStatement_147 ⟨Nat.le_of_ble_eq_true rfl, Nat.le_of_ble_eq_true rfl⟩) hw hA (fun p217 H locs hp217 hw => ?_)
        obtain ⟨ma214, cf215, ca216, rfl, e219, e220, e221, e222, e223, e224, e225, e226, e227, e228, e229, e230, e231, e232, e233, e234, e235, e236, e237, e238, e239, e240, e241, e242, e243, e244, e245, e246⟩ := hp217
        have e219 : (cf215 30).toInt = 0 → (cf176 30).toInt = 0 := e219
        have e220 : WrV cf215 (tf 6).toInt := e220
        have hwr := e220
        have hw0_e220 := hwr.1
        have e221 : (cf215 37).toInt = (cf176 37).toInt := e221
        have e222 : (cf215 38).toInt = (cf176 38).toInt := e222
        have e223 : (cf215 43).toInt = (cf176 43).toInt := e223
        have e224 : (cf215 44).toInt = (cf176 44).toInt := e224
        have e225 : (cf215 45).toInt = (cf176 45).toInt := e225
        have e226 : (cf215 46).toInt = (cf176 46).toInt := e226
        have e227 : (cf215 47).toInt = (cf176 47).toInt := e227
        have e228 : (cf215 41).toInt = (cf176 41).toInt := e228
        have e229 : (cf215 55).toInt = (cf176 55).toInt := e229
        have e230 : (cf215 59).toInt = (cf176 59).toInt := e230
        have e231 : (cf176 33).toInt ≤ (cf215 33).toInt := e231
        have e232 : 6 * (cf215 33).toInt ≤ 6 * (cf176 33).toInt + (w3) := e232
        have e233 : (cf176 48).toInt ≤ (cf215 48).toInt := e233
        have e234 : 6 * (cf215 48).toInt ≤ 6 * (cf176 48).toInt + (w3) := e234
        have e235 : (cf176 54).toInt ≤ (cf215 54).toInt := e235
        have e236 : (cf176 42).toInt ≤ (cf215 42).toInt := e236
        have e237 : (cf215 54).toInt - (cf176 54).toInt ≤ 4 * ((cf215 42).toInt - (cf176 42).toInt) := e237
        have e238 : (cf215 54).toInt - (cf176 54).toInt ≤ 4096 * ((cf215 48).toInt - (cf176 48).toInt) := e238
        have e239 : (cf215 42).toInt - (cf176 42).toInt ≤ 4096 * ((cf215 48).toInt - (cf176 48).toInt) := e239
        have e240 : KnT (tf 6).toInt ca216 (cf215 33).toInt := e240
        have hkt := e240
        have hk11_e240 := hkt.1
        have e241 : KnS ca216 (cf215 33).toInt (cf215 48).toInt ys := e241
        have hks := e241
        have e242 : CaG ca177 ca216 (cf176 33).toInt (cf176 48).toInt := e242
        have hcg := hcg.tr e242 (by omega) (by omega)
        have hft := hft.cg e242
        have hfp := hfp.cg e242
        have e243 : SyR ca216 ys (cf215 48).toInt (cf215 54).toInt tx := e243
        have hsr := e243
        have e244 : Ann na ma0 ma214 := e244
        have han := e244
        have e245 : FrC m2 hi ma175 ma214 := e245
        have hfc := hfc.tr e245 (by omega) (by omega)
        have hty_z149 : ZTe cf215 ta ca216 na ma0 (cf215 48).toInt ys nf ma214 (p0.toInt + 1) m1 z149 0 := ZTe.tr hty_z149 (fun q => by omega) e245 (by omega) e242 (by omega) (by omega)
        have hts_z171 : ZTe cf215 ta ca216 na ma0 (cf215 48).toInt ys nf ma214 m1 m2 z171 (tgv (cf 44).toInt (cf 45).toInt) := ZTe.tr hts_z171 (fun q => by omega) e245 (by omega) e242 (by omega) (by omega)
        have e246 : ZTe cf215 ta ca216 na ma0 (cf215 48).toInt ys nf ma214 m2 hi z210 (tgv (cf176 44).toInt (cf176 45).toInt) := e246
        have hts_z210 : ZTe cf215 ta ca216 na ma0 (cf215 48).toInt ys nf ma214 m2 hi z210 (tgv (cf 44).toInt (cf 45).toInt) := ZTe.to e246 (fun q => by omega) (by omega) (Int.le_refl _) (Int.le_refl _) (by congr 1 <;> omega)
        have hw : pw D A s.heap H locs [wdP cs h r g tf ta pf na ma214 wa cf215 ca216 ef ea xf xa] := hw
        refine lv_goto (tgt := 274) S.x S.b d_Mpg_checkStatement_150 (by decide) ?_
        exact px_vret S hr hlk hAe hw (Nat.le_of_ble_eq_true rfl) (Nat.le_of_ble_eq_true rfl) (⟨ma214, cf215, ca216, rfl, (show (cf215 30).toInt = 0 → (cf 30).toInt = 0 from by omega), (show WrV cf215 (tf 6).toInt from hwr), (show (cf215 37).toInt = (cf 37).toInt from by omega), (show (cf215 38).toInt = (cf 38).toInt from by omega), (show (cf215 43).toInt = (cf 43).toInt from by omega), (show (cf215 44).toInt = (cf 44).toInt from by omega), (show (cf215 45).toInt = (cf 45).toInt from by omega), (show (cf215 46).toInt = (cf 46).toInt from by omega), (show (cf215 47).toInt = (cf 47).toInt from by omega), (show (cf215 41).toInt = (cf 41).toInt from by omega), (show (cf215 55).toInt = (cf 55).toInt from by omega), (show (cf215 59).toInt = (cf 59).toInt from by omega), (show (cf 33).toInt ≤ (cf215 33).toInt from by omega), (show 6 * (cf215 33).toInt ≤ 6 * (cf 33).toInt + (w) from by omega), (show (cf 48).toInt ≤ (cf215 48).toInt from by omega), (show 6 * (cf215 48).toInt ≤ 6 * (cf 48).toInt + (w) from by omega), (show (cf 54).toInt ≤ (cf215 54).toInt from by omega), (show (cf 42).toInt ≤ (cf215 42).toInt from by omega), (show (cf215 54).toInt - (cf 54).toInt ≤ 4 * ((cf215 42).toInt - (cf 42).toInt) from by omega), (show (cf215 54).toInt - (cf 54).toInt ≤ 4096 * ((cf215 48).toInt - (cf 48).toInt) from by omega), (show (cf215 42).toInt - (cf 42).toInt ≤ 4096 * ((cf215 48).toInt - (cf 48).toInt) from by omega), (show KnT (tf 6).toInt ca216 (cf215 33).toInt from (KnT.eq hkt (by omega))), (show KnS ca216 (cf215 33).toInt (cf215 48).toInt ys from (KnS.eq hks (by omega) (by omega))), (show CaG ca ca216 (cf 33).toInt (cf 48).toInt from (hcg.le (by omega) (by omega))), (show SyR ca216 ys (cf215 48).toInt (cf215 54).toInt tx from (SyR.eq hsr (by omega) (by omega))), (show Ann na ma0 ma214 from han), (show FrC lo hi ma ma214 from hfc), (show ZTe cf215 ta ca216 na ma0 (cf215 48).toInt ys nf ma214 lo hi p0 (tgv (cf 44).toInt (cf 45).toInt) from (fun zz => by exact tys_24 ⟨by omega, by omega, by omega⟩ tgv_rng (by omega) ha_z149 (ha_z171.trans (Ann.b18 han (by omega)).symm) (ha_z210.trans (Ann.b19 han (by omega)).symm) (ZTe.at hty_z149 (by omega) (by omega) (by omega) (by omega) rfl) (ZTe.at hts_z171 (by omega) (by omega) (by omega) (by omega) rfl) (ZTe.ot hts_z210 (by omega) (by omega) (by omega) (by omega) rfl)))⟩) d_Mpg_checkStatement_274
    · simp only [List.mem_cons, List.not_mem_nil, or_false] at c58
      refine lv_aload_n S.x S.b d_Mpg_checkStatement_153 rfl (lv_at hl 0 rfl) ?_
      refine lv_aload_n S.x S.b d_Mpg_checkStatement_154 rfl (lv_at hl 0 rfl) ?_
      obtain ⟨m1, m2, w1, w2, w3, hm1, hm2, hm3, hea, hsb, hoc, hx24, hws, hw1, hw2, hw3⟩ := ScV.s24 hsc (by omega) (z := na 17 p0.toNatClampNeg) (y := ma0 18 p0.toNatClampNeg) (x := ma0 19 p0.toNatClampNeg) rfl rfl rfl
      refine px_get S k_Mpg hT hw 0 0 17 (v := .ref (r 17)) rfl rfl rfl (by decide) m10_1 d_Mpg_checkStatement_155 ?_
      refine lv_iload_n S.x S.b d_Mpg_checkStatement_158 rfl (lv_at hl 1 rfl) ?_
      refine px_iald S hT hw 0 13 (n := 2100) (f := (na 17)) rfl gp_17 (x := p0) (vp_in_iff.mpr (by constructor <;> omega)) d_Mpg_checkStatement_159 ?_
      refine lv_topi (fun z247 ez247 => ?_)
      have lz247 := Int32.le_toInt z247
      have uz247 := Int32.toInt_lt z247
      have ha_z247 : z247 = na 17 p0.toNatClampNeg := ez247; have hn_z247 : z247.toInt = (na 17 p0.toNatClampNeg).toInt := (by rw [ha_z247]); have hev_z247 : ErV ta (tf 6).toInt na ma0 d (p0.toInt + 1) m1 w1 z247 := (by rw [ha_z247]; exact hea); obtain ⟨hec_z247, h20_z247, hw_z247⟩ := hev_z247.ec; have hrg_z247 := EcV.rng hec_z247
      refine lv_iconst (v := 1) S.x S.b d_Mpg_checkStatement_160 (by decide) ?_
      refine px_calli (pr := []) (px_runV (As := [.int z247, .int 1]) (rest := []) S (c_S_check l D cs ma0 ys (cf 48).toInt nf (cf 33).toInt d (p0.toInt + 1) m1 h r g tf ta pf na wa ca ef ea xf xa ma cf z247 1  (show 0 ≤ (p0.toInt + 1) from by omega) (show m1 ≤ (pf 13).toInt from by omega) (show (pf 13).toInt ≤ 2100 from by omega) (show (tf 6).toInt ≤ 2049 from by omega) (show (cf 33).toInt = (cf 33).toInt from by omega) (show 0 ≤ (cf 33).toInt from by omega) (show (cf 48).toInt = (cf 48).toInt from by omega) (show (cf 38).toInt = nf from by omega) (show 0 ≤ nf from by omega) (show 0 ≤ (1 : Int) from by omega) (show (1 : Int) ≤ 1 from by omega) htk (FsI.le (N' := (pf 13).toInt) hfs (by omega)) hwr (KnT.eq hkt (by omega)) (FnT.eq hft (by omega)) (KnS.eq hks (by omega) (by omega)) hfp han hec_z247 _) hT (pr := []) (pcs := [wdP cs h r g tf ta pf na ma wa cf ca ef ea xf xa]) hw (oX_call (P := (fun A U H => (oP A g U H))) (pr := []) oG_P hw hA hP) (px_recv hT hw 0 0 rfl rfl rfl) m12_217 m12_214 m12_216 ms_12_7 m1_21 q_Mpg_check ⟨show (4 * d + 12) + 1 ≤ (6 * (d + 1) + 26) from by omega, show 8 + (8 + 11) + (200 * d + 420) ≤ (260 * (d + 1) + 900) from by omega⟩ hl.1 rfl (Nat.le_of_ble_eq_true rfl) d_Mpg_checkStatement_161 ⟨Nat.le_of_ble_eq_true rfl, Nat.le_of_ble_eq_true rfl⟩) hw hA (fun v253 p252 H locs hp252 hw => ?_)
      obtain ⟨ma250, cf251, rfl, e254, e255, e256, e257, e258, e259, e260, e261, e262, e263, e264, e265, e266, e267, e268⟩ := hp252
      have e254 : KpE cf cf251 := e254
      have hkz_e254 := e254.2
      have hkk37_e254 : (cf251 37).toInt = (cf 37).toInt := (by rw [e254.1 37 (by decide) (by decide) (by decide) (by decide) (by decide)] <;> rfl)
      have hkk43_e254 : (cf251 43).toInt = (cf 43).toInt := (by rw [e254.1 43 (by decide) (by decide) (by decide) (by decide) (by decide)] <;> rfl)
      have hkk44_e254 : (cf251 44).toInt = (cf 44).toInt := (by rw [e254.1 44 (by decide) (by decide) (by decide) (by decide) (by decide)] <;> rfl)
      have hkk45_e254 : (cf251 45).toInt = (cf 45).toInt := (by rw [e254.1 45 (by decide) (by decide) (by decide) (by decide) (by decide)] <;> rfl)
      have hkk41_e254 : (cf251 41).toInt = (cf 41).toInt := (by rw [e254.1 41 (by decide) (by decide) (by decide) (by decide) (by decide)] <;> rfl)
      have hkk55_e254 : (cf251 55).toInt = (cf 55).toInt := (by rw [e254.1 55 (by decide) (by decide) (by decide) (by decide) (by decide)] <;> rfl)
      have hkk59_e254 : (cf251 59).toInt = (cf 59).toInt := (by rw [e254.1 59 (by decide) (by decide) (by decide) (by decide) (by decide)] <;> rfl)
      have hkk42_e254 : (cf251 42).toInt = (cf 42).toInt := (by rw [e254.1 42 (by decide) (by decide) (by decide) (by decide) (by decide)] <;> rfl)
      have hkk54_e254 : (cf251 54).toInt = (cf 54).toInt := (by rw [e254.1 54 (by decide) (by decide) (by decide) (by decide) (by decide)] <;> rfl)
      have hkk58_e254 : (cf251 58).toInt = (cf 58).toInt := (by rw [e254.1 58 (by decide) (by decide) (by decide) (by decide) (by decide)] <;> rfl)
      have e255 : WrV cf251 (tf 6).toInt := e255
      have hwr := e255
      have hw0_e255 := hwr.1
      have e256 : (cf251 33).toInt = (cf 33).toInt := e256
      have e257 : (cf251 38).toInt = (cf 38).toInt := e257
      have e258 : (cf251 48).toInt = (cf 48).toInt := e258
      have e259 : (cf251 46).toInt = (cf 46).toInt := e259
      have e260 : (cf251 47).toInt = (cf 47).toInt := e260
      have e261 : (cf251 57).toInt = (cf 57).toInt := e261
      have e262 : Ann na ma0 ma250 := e262
      have han := e262
      have e263 : FrC (p0.toInt + 1) m1 ma ma250 := e263
      have hfc := hfc.tr e263 (by omega) (by omega)
      have e264 : 0 ≤ v253.toInt := e264
      have e265 : v253.toInt ≤ 4 := e265
      have e266 : NmJ ta ca na ma250 (cf 33).toInt z247 v253.toInt := e266
      have e267 : ZTy cf251 (Gk ta ca na ma0 (cf 48).toInt ys nf) na ma250 (p0.toInt + 1) m1 z247 v253.toInt := e267
      have e268 : ZNm cf251 (1 : Int) v253.toInt := e268
      have hty_z247 : ZTe cf251 ta ca na ma0 (cf251 48).toInt ys nf ma250 (p0.toInt + 1) m1 z247 0 := ZTe.to (t := 0) (ZTy.num e267 e268) (fun q => by omega) (by omega) (Int.le_refl _) (Int.le_refl _) rfl
      have hw : pw D A s.heap H locs [wdP cs h r g tf ta pf na ma250 wa cf251 ca ef ea xf xa] := hw
      have lv253 := Int32.le_toInt v253
      have uv253 := Int32.toInt_lt v253
      refine lv_pop S.x S.b d_Mpg_checkStatement_164 rfl ?_
      refine lv_aload_n S.x S.b d_Mpg_checkStatement_165 rfl (lv_at hl 0 rfl) ?_
      refine lv_aload_n S.x S.b d_Mpg_checkStatement_166 rfl (lv_at hl 0 rfl) ?_
      refine px_get S k_Mpg hT hw 0 0 18 (v := .ref (r 18)) rfl rfl rfl (by decide) m10_3 d_Mpg_checkStatement_167 ?_
      refine lv_iload_n S.x S.b d_Mpg_checkStatement_170 rfl (lv_at hl 1 rfl) ?_
      refine px_iald S hT hw 0 14 (n := 2100) (f := (ma250 18)) rfl gp_18 (x := p0) (vp_in_iff.mpr (by constructor <;> omega)) d_Mpg_checkStatement_171 ?_
      refine lv_topi (fun z269 ez269 => ?_)
      have lz269 := Int32.le_toInt z269
      have uz269 := Int32.toInt_lt z269
      have ha_z269 : z269 = ma0 18 p0.toNatClampNeg := ez269.trans (Ann.b18 han (by omega)); have hn_z269 : z269.toInt = (ma0 18 p0.toNatClampNeg).toInt := (by rw [ha_z269]); have hsc_z269 : ScV ta (tf 6).toInt na ma0 d m1 m2 w2 z269 := (by rw [ha_z269]; exact hsb); have hrg_z269 := ScV.rng hsc_z269
      refine px_callv (pr := []) (px_runV (As := [.int z269]) (rest := []) S (c_mp_checkBody l D cs ma0 ys nf tx d m1 m2 w2 h r g tf ta pf na wa ef ea xf xa ma250 cf251 ca z269  (show 0 ≤ m1 from by omega) (show m2 ≤ (pf 13).toInt from by omega) (show (pf 13).toInt ≤ 2100 from by omega) (show (tf 6).toInt ≤ 2049 from by omega) (show 0 ≤ (cf251 33).toInt from by omega) (show 0 ≤ w2 from by omega) (show 6 * (cf251 33).toInt + w2 ≤ 6540 from by omega) (show 0 ≤ (cf251 48).toInt from by omega) (show 6 * (cf251 48).toInt + w2 ≤ 6540 from by omega) (show (cf251 38).toInt = nf from by omega) (show 0 ≤ nf from by omega) (show 0 ≤ (cf251 37).toInt from by omega) (show 0 ≤ (cf251 54).toInt from by omega) (show (cf251 54).toInt ≤ 4096 * (cf251 48).toInt from by omega) (show 0 ≤ (cf251 42).toInt from by omega) (show (cf251 42).toInt ≤ 4 + 4096 * (cf251 48).toInt from by omega) (show 0 ≤ (cf251 44).toInt from by omega) (show 0 ≤ (cf251 45).toInt from by omega) (show ys ≤ (cf251 48).toInt ∨ tx = 1 from by omega) (show 0 ≤ (cf251 46).toInt from by omega) (show (cf251 46).toInt ≤ 1 from by omega) (show 0 ≤ (cf251 47).toInt from by omega) (show (cf251 47).toInt ≤ 1 from by omega) (show (cf251 44).toInt + (d : Int) ≤ 400 from by omega) (show (cf251 45).toInt + (d : Int) ≤ 400 from by omega) (show 0 ≤ (cf251 43).toInt from by omega) (show (cf251 43).toInt < 2100 from by omega) (show tx = 0 from by omega) (show (cf251 44).toInt + (d : Int) + 1 ≤ 400 from by omega) htk (FsI.le (N' := (pf 13).toInt) hfs (by omega)) hwr (KnT.eq hkt (by omega)) (FnT.eq hft (by omega)) (KnS.eq hks (by omega) (by omega)) hfp (SyR.eq hsr (by omega) (by omega)) han (show txo (cf251 43).toInt = tx from by rw [show (cf251 43).toInt = (cf 43).toInt by omega]; exact htx) hsc_z269 hLS _) hT (pr := []) (pcs := [wdP cs h r g tf ta pf na ma250 wa cf251 ca ef ea xf xa]) hw (oX_call (P := (fun A U H => (oP A g U H))) (pr := []) oG_P hw hA hP) (px_recv hT hw 0 0 rfl rfl rfl) m13_37 m13_34 m13_36 ms_13_6 m1_21 q_Mpg_checkBody ⟨show (6 * d + 27) + 1 ≤ (6 * (d + 1) + 26) from by omega, show 8 + (2 + 11) + (260 * d + 940) ≤ (260 * (d + 1) + 900) from by omega⟩ hl.1 rfl (Nat.le_of_ble_eq_true rfl) d_Mpg_checkStatement_172 ⟨Nat.le_of_ble_eq_true rfl, Nat.le_of_ble_eq_true rfl⟩) hw hA (fun p276 H locs hp276 hw => ?_)
      obtain ⟨ma273, cf274, ca275, rfl, e278, e279, e280, e281, e282, e283, e284, e285, e286, e287, e288, e289, e290, e291, e292, e293, e294, e295, e296, e297, e298, e299, e300, e301, e302, e303, e304, e305⟩ := hp276
      have e278 : (cf274 30).toInt = 0 → (cf251 30).toInt = 0 := e278
      have e279 : WrV cf274 (tf 6).toInt := e279
      have hwr := e279
      have hw0_e279 := hwr.1
      have e280 : (cf274 37).toInt = (cf251 37).toInt := e280
      have e281 : (cf274 38).toInt = (cf251 38).toInt := e281
      have e282 : (cf274 43).toInt = (cf251 43).toInt := e282
      have e283 : (cf274 44).toInt = (cf251 44).toInt := e283
      have e284 : (cf274 45).toInt = (cf251 45).toInt := e284
      have e285 : (cf274 46).toInt = (cf251 46).toInt := e285
      have e286 : (cf274 47).toInt = (cf251 47).toInt := e286
      have e287 : (cf274 41).toInt = (cf251 41).toInt := e287
      have e288 : (cf274 55).toInt = (cf251 55).toInt := e288
      have e289 : (cf274 59).toInt = (cf251 59).toInt := e289
      have e290 : (cf251 33).toInt ≤ (cf274 33).toInt := e290
      have e291 : 6 * (cf274 33).toInt ≤ 6 * (cf251 33).toInt + (w2) := e291
      have e292 : (cf251 48).toInt ≤ (cf274 48).toInt := e292
      have e293 : 6 * (cf274 48).toInt ≤ 6 * (cf251 48).toInt + (w2) := e293
      have e294 : (cf251 54).toInt ≤ (cf274 54).toInt := e294
      have e295 : (cf251 42).toInt ≤ (cf274 42).toInt := e295
      have e296 : (cf274 54).toInt - (cf251 54).toInt ≤ 4 * ((cf274 42).toInt - (cf251 42).toInt) := e296
      have e297 : (cf274 54).toInt - (cf251 54).toInt ≤ 4096 * ((cf274 48).toInt - (cf251 48).toInt) := e297
      have e298 : (cf274 42).toInt - (cf251 42).toInt ≤ 4096 * ((cf274 48).toInt - (cf251 48).toInt) := e298
      have e299 : KnT (tf 6).toInt ca275 (cf274 33).toInt := e299
      have hkt := e299
      have hk11_e299 := hkt.1
      have e300 : KnS ca275 (cf274 33).toInt (cf274 48).toInt ys := e300
      have hks := e300
      have e301 : CaG ca ca275 (cf251 33).toInt (cf251 48).toInt := e301
      have hcg := hcg.tr e301 (by omega) (by omega)
      have hft := hft.cg e301
      have hfp := hfp.cg e301
      have e302 : SyR ca275 ys (cf274 48).toInt (cf274 54).toInt tx := e302
      have hsr := e302
      have e303 : Ann na ma0 ma273 := e303
      have han := e303
      have e304 : FrC m1 m2 ma250 ma273 := e304
      have hfc := hfc.tr e304 (by omega) (by omega)
      have hty_z247 : ZTe cf274 ta ca275 na ma0 (cf274 48).toInt ys nf ma273 (p0.toInt + 1) m1 z247 0 := ZTe.tr hty_z247 (fun q => by omega) e304 (by omega) e301 (by omega) (by omega)
      have e305 : ZTe cf274 ta ca275 na ma0 (cf274 48).toInt ys nf ma273 m1 m2 z269 4 := e305
      have hts_z269 : ZTe cf274 ta ca275 na ma0 (cf274 48).toInt ys nf ma273 m1 m2 z269 4 := ZTe.to e305 (fun q => by omega) (by omega) (Int.le_refl _) (Int.le_refl _) rfl
      have hw : pw D A s.heap H locs [wdP cs h r g tf ta pf na ma273 wa cf274 ca275 ef ea xf xa] := hw
      refine lv_goto (tgt := 274) S.x S.b d_Mpg_checkStatement_175 (by decide) ?_
      exact px_vret S hr hlk hAe hw (Nat.le_of_ble_eq_true rfl) (Nat.le_of_ble_eq_true rfl) (⟨ma273, cf274, ca275, rfl, (show (cf274 30).toInt = 0 → (cf 30).toInt = 0 from by omega), (show WrV cf274 (tf 6).toInt from hwr), (show (cf274 37).toInt = (cf 37).toInt from by omega), (show (cf274 38).toInt = (cf 38).toInt from by omega), (show (cf274 43).toInt = (cf 43).toInt from by omega), (show (cf274 44).toInt = (cf 44).toInt from by omega), (show (cf274 45).toInt = (cf 45).toInt from by omega), (show (cf274 46).toInt = (cf 46).toInt from by omega), (show (cf274 47).toInt = (cf 47).toInt from by omega), (show (cf274 41).toInt = (cf 41).toInt from by omega), (show (cf274 55).toInt = (cf 55).toInt from by omega), (show (cf274 59).toInt = (cf 59).toInt from by omega), (show (cf 33).toInt ≤ (cf274 33).toInt from by omega), (show 6 * (cf274 33).toInt ≤ 6 * (cf 33).toInt + (w) from by omega), (show (cf 48).toInt ≤ (cf274 48).toInt from by omega), (show 6 * (cf274 48).toInt ≤ 6 * (cf 48).toInt + (w) from by omega), (show (cf 54).toInt ≤ (cf274 54).toInt from by omega), (show (cf 42).toInt ≤ (cf274 42).toInt from by omega), (show (cf274 54).toInt - (cf 54).toInt ≤ 4 * ((cf274 42).toInt - (cf 42).toInt) from by omega), (show (cf274 54).toInt - (cf 54).toInt ≤ 4096 * ((cf274 48).toInt - (cf 48).toInt) from by omega), (show (cf274 42).toInt - (cf 42).toInt ≤ 4096 * ((cf274 48).toInt - (cf 48).toInt) from by omega), (show KnT (tf 6).toInt ca275 (cf274 33).toInt from (KnT.eq hkt (by omega))), (show KnS ca275 (cf274 33).toInt (cf274 48).toInt ys from (KnS.eq hks (by omega) (by omega))), (show CaG ca ca275 (cf 33).toInt (cf 48).toInt from (hcg.le (by omega) (by omega))), (show SyR ca275 ys (cf274 48).toInt (cf274 54).toInt tx from (SyR.eq hsr (by omega) (by omega))), (show Ann na ma0 ma273 from han), (show FrC lo hi ma ma273 from hfc), (show ZTe cf274 ta ca275 na ma0 (cf274 48).toInt ys nf ma273 lo hi p0 (tgv (cf 44).toInt (cf 45).toInt) from (fun zz => by exact tys_25 ⟨by omega, by omega, by omega⟩ tgv_rng (by omega) ha_z247 (ha_z269.trans (Ann.b18 han (by omega)).symm) (ZTe.at hty_z247 (by omega) (by omega) (by omega) (by omega) rfl) (ZTe.at hts_z269 (by omega) (by omega) (by omega) (by omega) rfl)))⟩) d_Mpg_checkStatement_274
    · simp only [List.mem_cons, List.not_mem_nil, or_false] at c58
      refine lv_aload_n S.x S.b d_Mpg_checkStatement_178 rfl (lv_at hl 0 rfl) ?_
      refine lv_aload_n S.x S.b d_Mpg_checkStatement_179 rfl (lv_at hl 0 rfl) ?_
      obtain ⟨m1, w1, w2, hm1, hm3, hsb, hea, hx26, hws, hw1, hw2⟩ := ScV.s26 hsc (by omega) (z := na 17 p0.toNatClampNeg) (y := ma0 18 p0.toNatClampNeg) rfl rfl
      refine px_get S k_Mpg hT hw 0 0 18 (v := .ref (r 18)) rfl rfl rfl (by decide) m10_3 d_Mpg_checkStatement_180 ?_
      refine lv_iload_n S.x S.b d_Mpg_checkStatement_183 rfl (lv_at hl 1 rfl) ?_
      refine px_iald S hT hw 0 14 (n := 2100) (f := (ma 18)) rfl gp_18 (x := p0) (vp_in_iff.mpr (by constructor <;> omega)) d_Mpg_checkStatement_184 ?_
      refine lv_topi (fun z306 ez306 => ?_)
      have lz306 := Int32.le_toInt z306
      have uz306 := Int32.toInt_lt z306
      have ha_z306 : z306 = ma0 18 p0.toNatClampNeg := ez306.trans (Ann.b18 han (by omega)); have hn_z306 : z306.toInt = (ma0 18 p0.toNatClampNeg).toInt := (by rw [ha_z306]); have hsc_z306 : ScV ta (tf 6).toInt na ma0 d (p0.toInt + 1) m1 w2 z306 := (by rw [ha_z306]; exact hsb); have hrg_z306 := ScV.rng hsc_z306
      refine px_callv (pr := []) (px_runV (As := [.int z306]) (rest := []) S (c_mp_checkBody l D cs ma0 ys nf tx d (p0.toInt + 1) m1 w2 h r g tf ta pf na wa ef ea xf xa ma cf ca z306  (show 0 ≤ (p0.toInt + 1) from by omega) (show m1 ≤ (pf 13).toInt from by omega) (show (pf 13).toInt ≤ 2100 from by omega) (show (tf 6).toInt ≤ 2049 from by omega) (show 0 ≤ (cf 33).toInt from by omega) (show 0 ≤ w2 from by omega) (show 6 * (cf 33).toInt + w2 ≤ 6540 from by omega) (show 0 ≤ (cf 48).toInt from by omega) (show 6 * (cf 48).toInt + w2 ≤ 6540 from by omega) (show (cf 38).toInt = nf from by omega) (show 0 ≤ nf from by omega) (show 0 ≤ (cf 37).toInt from by omega) (show 0 ≤ (cf 54).toInt from by omega) (show (cf 54).toInt ≤ 4096 * (cf 48).toInt from by omega) (show 0 ≤ (cf 42).toInt from by omega) (show (cf 42).toInt ≤ 4 + 4096 * (cf 48).toInt from by omega) (show 0 ≤ (cf 44).toInt from by omega) (show 0 ≤ (cf 45).toInt from by omega) (show ys ≤ (cf 48).toInt ∨ tx = 1 from by omega) (show 0 ≤ (cf 46).toInt from by omega) (show (cf 46).toInt ≤ 1 from by omega) (show 0 ≤ (cf 47).toInt from by omega) (show (cf 47).toInt ≤ 1 from by omega) (show (cf 44).toInt + (d : Int) ≤ 400 from by omega) (show (cf 45).toInt + (d : Int) ≤ 400 from by omega) (show 0 ≤ (cf 43).toInt from by omega) (show (cf 43).toInt < 2100 from by omega) (show tx = 0 from by omega) (show (cf 44).toInt + (d : Int) + 1 ≤ 400 from by omega) htk (FsI.le (N' := (pf 13).toInt) hfs (by omega)) hwr (KnT.eq hkt (by omega)) (FnT.eq hft (by omega)) (KnS.eq hks (by omega) (by omega)) hfp (SyR.eq hsr (by omega) (by omega)) han (show txo (cf 43).toInt = tx from by rw [show (cf 43).toInt = (cf 43).toInt by omega]; exact htx) hsc_z306 hLS _) hT (pr := []) (pcs := [wdP cs h r g tf ta pf na ma wa cf ca ef ea xf xa]) hw (oX_call (P := (fun A U H => (oP A g U H))) (pr := []) oG_P hw hA hP) (px_recv hT hw 0 0 rfl rfl rfl) m13_37 m13_34 m13_36 ms_13_6 m1_21 q_Mpg_checkBody ⟨show (6 * d + 27) + 1 ≤ (6 * (d + 1) + 26) from by omega, show 8 + (2 + 11) + (260 * d + 940) ≤ (260 * (d + 1) + 900) from by omega⟩ hl.1 rfl (Nat.le_of_ble_eq_true rfl) d_Mpg_checkStatement_185 ⟨Nat.le_of_ble_eq_true rfl, Nat.le_of_ble_eq_true rfl⟩) hw hA (fun p313 H locs hp313 hw => ?_)
      obtain ⟨ma310, cf311, ca312, rfl, e315, e316, e317, e318, e319, e320, e321, e322, e323, e324, e325, e326, e327, e328, e329, e330, e331, e332, e333, e334, e335, e336, e337, e338, e339, e340, e341, e342⟩ := hp313
      have e315 : (cf311 30).toInt = 0 → (cf 30).toInt = 0 := e315
      have e316 : WrV cf311 (tf 6).toInt := e316
      have hwr := e316
      have hw0_e316 := hwr.1
      have e317 : (cf311 37).toInt = (cf 37).toInt := e317
      have e318 : (cf311 38).toInt = (cf 38).toInt := e318
      have e319 : (cf311 43).toInt = (cf 43).toInt := e319
      have e320 : (cf311 44).toInt = (cf 44).toInt := e320
      have e321 : (cf311 45).toInt = (cf 45).toInt := e321
      have e322 : (cf311 46).toInt = (cf 46).toInt := e322
      have e323 : (cf311 47).toInt = (cf 47).toInt := e323
      have e324 : (cf311 41).toInt = (cf 41).toInt := e324
      have e325 : (cf311 55).toInt = (cf 55).toInt := e325
      have e326 : (cf311 59).toInt = (cf 59).toInt := e326
      have e327 : (cf 33).toInt ≤ (cf311 33).toInt := e327
      have e328 : 6 * (cf311 33).toInt ≤ 6 * (cf 33).toInt + (w2) := e328
      have e329 : (cf 48).toInt ≤ (cf311 48).toInt := e329
      have e330 : 6 * (cf311 48).toInt ≤ 6 * (cf 48).toInt + (w2) := e330
      have e331 : (cf 54).toInt ≤ (cf311 54).toInt := e331
      have e332 : (cf 42).toInt ≤ (cf311 42).toInt := e332
      have e333 : (cf311 54).toInt - (cf 54).toInt ≤ 4 * ((cf311 42).toInt - (cf 42).toInt) := e333
      have e334 : (cf311 54).toInt - (cf 54).toInt ≤ 4096 * ((cf311 48).toInt - (cf 48).toInt) := e334
      have e335 : (cf311 42).toInt - (cf 42).toInt ≤ 4096 * ((cf311 48).toInt - (cf 48).toInt) := e335
      have e336 : KnT (tf 6).toInt ca312 (cf311 33).toInt := e336
      have hkt := e336
      have hk11_e336 := hkt.1
      have e337 : KnS ca312 (cf311 33).toInt (cf311 48).toInt ys := e337
      have hks := e337
      have e338 : CaG ca ca312 (cf 33).toInt (cf 48).toInt := e338
      have hcg := hcg.tr e338 (by omega) (by omega)
      have hft := hft.cg e338
      have hfp := hfp.cg e338
      have e339 : SyR ca312 ys (cf311 48).toInt (cf311 54).toInt tx := e339
      have hsr := e339
      have e340 : Ann na ma0 ma310 := e340
      have han := e340
      have e341 : FrC (p0.toInt + 1) m1 ma ma310 := e341
      have hfc := hfc.tr e341 (by omega) (by omega)
      have e342 : ZTe cf311 ta ca312 na ma0 (cf311 48).toInt ys nf ma310 (p0.toInt + 1) m1 z306 4 := e342
      have hts_z306 : ZTe cf311 ta ca312 na ma0 (cf311 48).toInt ys nf ma310 (p0.toInt + 1) m1 z306 4 := ZTe.to e342 (fun q => by omega) (by omega) (Int.le_refl _) (Int.le_refl _) rfl
      have hw : pw D A s.heap H locs [wdP cs h r g tf ta pf na ma310 wa cf311 ca312 ef ea xf xa] := hw
      refine lv_aload_n S.x S.b d_Mpg_checkStatement_188 rfl (lv_at hl 0 rfl) ?_
      refine lv_aload_n S.x S.b d_Mpg_checkStatement_189 rfl (lv_at hl 0 rfl) ?_
      refine px_get S k_Mpg hT hw 0 0 17 (v := .ref (r 17)) rfl rfl rfl (by decide) m10_1 d_Mpg_checkStatement_190 ?_
      refine lv_iload_n S.x S.b d_Mpg_checkStatement_193 rfl (lv_at hl 1 rfl) ?_
      refine px_iald S hT hw 0 13 (n := 2100) (f := (na 17)) rfl gp_17 (x := p0) (vp_in_iff.mpr (by constructor <;> omega)) d_Mpg_checkStatement_194 ?_
      refine lv_topi (fun z343 ez343 => ?_)
      have lz343 := Int32.le_toInt z343
      have uz343 := Int32.toInt_lt z343
      have ha_z343 : z343 = na 17 p0.toNatClampNeg := ez343; have hn_z343 : z343.toInt = (na 17 p0.toNatClampNeg).toInt := (by rw [ha_z343]); have hev_z343 : ErV ta (tf 6).toInt na ma0 d m1 hi w1 z343 := (by rw [ha_z343]; exact hea); obtain ⟨hec_z343, h20_z343, hw_z343⟩ := hev_z343.ec; have hrg_z343 := EcV.rng hec_z343
      refine lv_iconst (v := 1) S.x S.b d_Mpg_checkStatement_195 (by decide) ?_
      refine px_calli (pr := []) (px_runV (As := [.int z343, .int 1]) (rest := []) S (c_S_check l D cs ma0 ys (cf311 48).toInt nf (cf311 33).toInt d m1 hi h r g tf ta pf na wa ca312 ef ea xf xa ma310 cf311 z343 1  (show 0 ≤ m1 from by omega) (show hi ≤ (pf 13).toInt from by omega) (show (pf 13).toInt ≤ 2100 from by omega) (show (tf 6).toInt ≤ 2049 from by omega) (show (cf311 33).toInt = (cf311 33).toInt from by omega) (show 0 ≤ (cf311 33).toInt from by omega) (show (cf311 48).toInt = (cf311 48).toInt from by omega) (show (cf311 38).toInt = nf from by omega) (show 0 ≤ nf from by omega) (show 0 ≤ (1 : Int) from by omega) (show (1 : Int) ≤ 1 from by omega) htk (FsI.le (N' := (pf 13).toInt) hfs (by omega)) hwr (KnT.eq hkt (by omega)) (FnT.eq hft (by omega)) (KnS.eq hks (by omega) (by omega)) hfp han hec_z343 _) hT (pr := []) (pcs := [wdP cs h r g tf ta pf na ma310 wa cf311 ca312 ef ea xf xa]) hw (oX_call (P := (fun A U H => (oP A g U H))) (pr := []) oG_P hw hA hP) (px_recv hT hw 0 0 rfl rfl rfl) m12_217 m12_214 m12_216 ms_12_7 m1_21 q_Mpg_check ⟨show (4 * d + 12) + 1 ≤ (6 * (d + 1) + 26) from by omega, show 8 + (8 + 11) + (200 * d + 420) ≤ (260 * (d + 1) + 900) from by omega⟩ hl.1 rfl (Nat.le_of_ble_eq_true rfl) d_Mpg_checkStatement_196 ⟨Nat.le_of_ble_eq_true rfl, Nat.le_of_ble_eq_true rfl⟩) hw hA (fun v349 p348 H locs hp348 hw => ?_)
      obtain ⟨ma346, cf347, rfl, e350, e351, e352, e353, e354, e355, e356, e357, e358, e359, e360, e361, e362, e363, e364⟩ := hp348
      have e350 : KpE cf311 cf347 := e350
      have hkz_e350 := e350.2
      have hkk37_e350 : (cf347 37).toInt = (cf311 37).toInt := (by rw [e350.1 37 (by decide) (by decide) (by decide) (by decide) (by decide)] <;> rfl)
      have hkk43_e350 : (cf347 43).toInt = (cf311 43).toInt := (by rw [e350.1 43 (by decide) (by decide) (by decide) (by decide) (by decide)] <;> rfl)
      have hkk44_e350 : (cf347 44).toInt = (cf311 44).toInt := (by rw [e350.1 44 (by decide) (by decide) (by decide) (by decide) (by decide)] <;> rfl)
      have hkk45_e350 : (cf347 45).toInt = (cf311 45).toInt := (by rw [e350.1 45 (by decide) (by decide) (by decide) (by decide) (by decide)] <;> rfl)
      have hkk41_e350 : (cf347 41).toInt = (cf311 41).toInt := (by rw [e350.1 41 (by decide) (by decide) (by decide) (by decide) (by decide)] <;> rfl)
      have hkk55_e350 : (cf347 55).toInt = (cf311 55).toInt := (by rw [e350.1 55 (by decide) (by decide) (by decide) (by decide) (by decide)] <;> rfl)
      have hkk59_e350 : (cf347 59).toInt = (cf311 59).toInt := (by rw [e350.1 59 (by decide) (by decide) (by decide) (by decide) (by decide)] <;> rfl)
      have hkk42_e350 : (cf347 42).toInt = (cf311 42).toInt := (by rw [e350.1 42 (by decide) (by decide) (by decide) (by decide) (by decide)] <;> rfl)
      have hkk54_e350 : (cf347 54).toInt = (cf311 54).toInt := (by rw [e350.1 54 (by decide) (by decide) (by decide) (by decide) (by decide)] <;> rfl)
      have hkk58_e350 : (cf347 58).toInt = (cf311 58).toInt := (by rw [e350.1 58 (by decide) (by decide) (by decide) (by decide) (by decide)] <;> rfl)
      have e351 : WrV cf347 (tf 6).toInt := e351
      have hwr := e351
      have hw0_e351 := hwr.1
      have e352 : (cf347 33).toInt = (cf311 33).toInt := e352
      have e353 : (cf347 38).toInt = (cf311 38).toInt := e353
      have e354 : (cf347 48).toInt = (cf311 48).toInt := e354
      have e355 : (cf347 46).toInt = (cf311 46).toInt := e355
      have e356 : (cf347 47).toInt = (cf311 47).toInt := e356
      have e357 : (cf347 57).toInt = (cf311 57).toInt := e357
      have e358 : Ann na ma0 ma346 := e358
      have han := e358
      have e359 : FrC m1 hi ma310 ma346 := e359
      have hfc := hfc.tr e359 (by omega) (by omega)
      have hts_z306 : ZTe cf347 ta ca312 na ma0 (cf347 48).toInt ys nf ma346 (p0.toInt + 1) m1 z306 4 := ZTe.tr hts_z306 (fun q => by omega) e359 (by omega) (CaG.rf (kn := 0) (ns := 5000)) (by omega) (by omega)
      have e360 : 0 ≤ v349.toInt := e360
      have e361 : v349.toInt ≤ 4 := e361
      have e362 : NmJ ta ca312 na ma346 (cf311 33).toInt z343 v349.toInt := e362
      have e363 : ZTy cf347 (Gk ta ca312 na ma0 (cf311 48).toInt ys nf) na ma346 m1 hi z343 v349.toInt := e363
      have e364 : ZNm cf347 (1 : Int) v349.toInt := e364
      have hty_z343 : ZTe cf347 ta ca312 na ma0 (cf347 48).toInt ys nf ma346 m1 hi z343 0 := ZTe.to (t := 0) (ZTy.num e363 e364) (fun q => by omega) (by omega) (Int.le_refl _) (Int.le_refl _) rfl
      have hw : pw D A s.heap H locs [wdP cs h r g tf ta pf na ma346 wa cf347 ca312 ef ea xf xa] := hw
      have lv349 := Int32.le_toInt v349
      have uv349 := Int32.toInt_lt v349
      refine lv_pop S.x S.b d_Mpg_checkStatement_199 rfl ?_
      refine lv_goto (tgt := 274) S.x S.b d_Mpg_checkStatement_200 (by decide) ?_
      exact px_vret S hr hlk hAe hw (Nat.le_of_ble_eq_true rfl) (Nat.le_of_ble_eq_true rfl) (⟨ma346, cf347, ca312, rfl, (show (cf347 30).toInt = 0 → (cf 30).toInt = 0 from by omega), (show WrV cf347 (tf 6).toInt from hwr), (show (cf347 37).toInt = (cf 37).toInt from by omega), (show (cf347 38).toInt = (cf 38).toInt from by omega), (show (cf347 43).toInt = (cf 43).toInt from by omega), (show (cf347 44).toInt = (cf 44).toInt from by omega), (show (cf347 45).toInt = (cf 45).toInt from by omega), (show (cf347 46).toInt = (cf 46).toInt from by omega), (show (cf347 47).toInt = (cf 47).toInt from by omega), (show (cf347 41).toInt = (cf 41).toInt from by omega), (show (cf347 55).toInt = (cf 55).toInt from by omega), (show (cf347 59).toInt = (cf 59).toInt from by omega), (show (cf 33).toInt ≤ (cf347 33).toInt from by omega), (show 6 * (cf347 33).toInt ≤ 6 * (cf 33).toInt + (w) from by omega), (show (cf 48).toInt ≤ (cf347 48).toInt from by omega), (show 6 * (cf347 48).toInt ≤ 6 * (cf 48).toInt + (w) from by omega), (show (cf 54).toInt ≤ (cf347 54).toInt from by omega), (show (cf 42).toInt ≤ (cf347 42).toInt from by omega), (show (cf347 54).toInt - (cf 54).toInt ≤ 4 * ((cf347 42).toInt - (cf 42).toInt) from by omega), (show (cf347 54).toInt - (cf 54).toInt ≤ 4096 * ((cf347 48).toInt - (cf 48).toInt) from by omega), (show (cf347 42).toInt - (cf 42).toInt ≤ 4096 * ((cf347 48).toInt - (cf 48).toInt) from by omega), (show KnT (tf 6).toInt ca312 (cf347 33).toInt from (KnT.eq hkt (by omega))), (show KnS ca312 (cf347 33).toInt (cf347 48).toInt ys from (KnS.eq hks (by omega) (by omega))), (show CaG ca ca312 (cf 33).toInt (cf 48).toInt from (hcg.le (by omega) (by omega))), (show SyR ca312 ys (cf347 48).toInt (cf347 54).toInt tx from (SyR.eq hsr (by omega) (by omega))), (show Ann na ma0 ma346 from han), (show FrC lo hi ma ma346 from hfc), (show ZTe cf347 ta ca312 na ma0 (cf347 48).toInt ys nf ma346 lo hi p0 (tgv (cf 44).toInt (cf 45).toInt) from (fun zz => by exact tys_25 ⟨by omega, by omega, by omega⟩ tgv_rng (by omega) ha_z343 (ha_z306.trans (Ann.b18 han (by omega)).symm) (ZTe.at hty_z343 (by omega) (by omega) (by omega) (by omega) rfl) (ZTe.at hts_z306 (by omega) (by omega) (by omega) (by omega) rfl)))⟩) d_Mpg_checkStatement_274
    · simp only [List.mem_cons, List.not_mem_nil, or_false] at c58
      refine lv_aload_n S.x S.b d_Mpg_checkStatement_203 rfl (lv_at hl 0 rfl) ?_
      refine lv_iload_n S.x S.b d_Mpg_checkStatement_204 rfl (lv_at hl 1 rfl) ?_
      refine px_callv (pr := []) (px_runV (As := [.int p0]) (rest := []) S (c_mp_checkFor l D cs ma0 ys nf tx d lo hi w h r g tf ta pf na wa ef ea xf xa ma cf ca p0  (show 0 ≤ lo from by omega) (show hi ≤ (pf 13).toInt from by omega) (show (pf 13).toInt ≤ 2100 from by omega) (show (tf 6).toInt ≤ 2049 from by omega) (show 0 ≤ (cf 33).toInt from by omega) (show 0 ≤ w from by omega) (show 6 * (cf 33).toInt + w ≤ 6540 from by omega) (show 0 ≤ (cf 48).toInt from by omega) (show 6 * (cf 48).toInt + w ≤ 6540 from by omega) (show (cf 38).toInt = nf from by omega) (show 0 ≤ nf from by omega) (show 0 ≤ (cf 37).toInt from by omega) (show 0 ≤ (cf 54).toInt from by omega) (show (cf 54).toInt ≤ 4096 * (cf 48).toInt from by omega) (show 0 ≤ (cf 42).toInt from by omega) (show (cf 42).toInt ≤ 4 + 4096 * (cf 48).toInt from by omega) (show 0 ≤ (cf 44).toInt from by omega) (show 0 ≤ (cf 45).toInt from by omega) (show ys ≤ (cf 48).toInt ∨ tx = 1 from by omega) (show 0 ≤ (cf 46).toInt from by omega) (show (cf 46).toInt ≤ 1 from by omega) (show 0 ≤ (cf 47).toInt from by omega) (show (cf 47).toInt ≤ 1 from by omega) (show (cf 44).toInt + (d : Int) ≤ 400 from by omega) (show (cf 45).toInt + (d : Int) ≤ 400 from by omega) (show 0 ≤ (cf 43).toInt from by omega) (show (cf 43).toInt < 2100 from by omega) (show tx = 0 from by omega) (show (na 14 p0.toNatClampNeg).toInt = 27 from by omega) (show (cf 44).toInt + (d : Int) + 1 ≤ 400 from by omega) (show (cf 45).toInt + (d : Int) + 1 ≤ 400 from by omega) htk (FsI.le (N' := (pf 13).toInt) hfs (by omega)) hwr (KnT.eq hkt (by omega)) (FnT.eq hft (by omega)) (KnS.eq hks (by omega) (by omega)) hfp (SyR.eq hsr (by omega) (by omega)) han (show txo (cf 43).toInt = tx from by rw [show (cf 43).toInt = (cf 43).toInt by omega]; exact htx) hsc_p0 hLS _) hT (pr := []) (pcs := [wdP cs h r g tf ta pf na ma wa cf ca ef ea xf xa]) hw (oX_call (P := (fun A U H => (oP A g U H))) (pr := []) oG_P hw hA hP) (px_recv hT hw 0 0 rfl rfl rfl) m13_41 m13_38 m13_40 ms_13_7 m1_21 q_Mpg_checkFor ⟨show (6 * d + 29) + 1 ≤ (6 * (d + 1) + 26) from by omega, show 8 + (4 + 11) + (260 * d + 1020) ≤ (260 * (d + 1) + 900) from by omega⟩ hl.1 rfl (Nat.le_of_ble_eq_true rfl) d_Mpg_checkStatement_205 ⟨Nat.le_of_ble_eq_true rfl, Nat.le_of_ble_eq_true rfl⟩) hw hA (fun p371 H locs hp371 hw => ?_)
      obtain ⟨ma368, cf369, ca370, rfl, e373, e374, e375, e376, e377, e378, e379, e380, e381, e382, e383, e384, e385, e386, e387, e388, e389, e390, e391, e392, e393, e394, e395, e396, e397, e398, e399⟩ := hp371
      have e373 : (cf369 30).toInt = 0 → (cf 30).toInt = 0 := e373
      have e374 : WrV cf369 (tf 6).toInt := e374
      have hwr := e374
      have hw0_e374 := hwr.1
      have e375 : (cf369 37).toInt = (cf 37).toInt := e375
      have e376 : (cf369 38).toInt = (cf 38).toInt := e376
      have e377 : (cf369 43).toInt = (cf 43).toInt := e377
      have e378 : (cf369 44).toInt = (cf 44).toInt := e378
      have e379 : (cf369 45).toInt = (cf 45).toInt := e379
      have e380 : (cf369 46).toInt = (cf 46).toInt := e380
      have e381 : (cf369 47).toInt = (cf 47).toInt := e381
      have e382 : (cf369 41).toInt = (cf 41).toInt := e382
      have e383 : (cf369 55).toInt = (cf 55).toInt := e383
      have e384 : (cf369 59).toInt = (cf 59).toInt := e384
      have e385 : (cf369 33).toInt = (cf 33).toInt := e385
      have e386 : (cf 48).toInt ≤ (cf369 48).toInt := e386
      have e387 : 6 * (cf369 48).toInt ≤ 6 * (cf 48).toInt + (w) := e387
      have e388 : (cf 54).toInt ≤ (cf369 54).toInt := e388
      have e389 : (cf 42).toInt ≤ (cf369 42).toInt := e389
      have e390 : (cf369 54).toInt - (cf 54).toInt ≤ 4 * ((cf369 42).toInt - (cf 42).toInt) := e390
      have e391 : (cf369 54).toInt - (cf 54).toInt ≤ 4096 * ((cf369 48).toInt - (cf 48).toInt) := e391
      have e392 : (cf369 42).toInt - (cf 42).toInt ≤ 4096 * ((cf369 48).toInt - (cf 48).toInt) := e392
      have e393 : KnT (tf 6).toInt ca370 (cf369 33).toInt := e393
      have hkt := e393
      have hk11_e393 := hkt.1
      have e394 : KnS ca370 (cf369 33).toInt (cf369 48).toInt ys := e394
      have hks := e394
      have e395 : CaG ca ca370 (cf 33).toInt (cf 48).toInt := e395
      have hcg := hcg.tr e395 (by omega) (by omega)
      have hft := hft.cg e395
      have hfp := hfp.cg e395
      have e396 : SyR ca370 ys (cf369 48).toInt (cf369 54).toInt tx := e396
      have hsr := e396
      have e397 : Ann na ma0 ma368 := e397
      have han := e397
      have e398 : FrC lo hi ma ma368 := e398
      have hfc := hfc.tr e398 (by omega) (by omega)
      have e399 : ZTe cf369 ta ca370 na ma0 (cf369 48).toInt ys nf ma368 lo hi p0 (tgv (cf 44).toInt (cf 45).toInt) := e399
      have hts_p0 : ZTe cf369 ta ca370 na ma0 (cf369 48).toInt ys nf ma368 lo hi p0 (tgv (cf 44).toInt (cf 45).toInt) := ZTe.to e399 (fun q => by omega) (by omega) (Int.le_refl _) (Int.le_refl _) (by congr 1 <;> omega)
      have hw : pw D A s.heap H locs [wdP cs h r g tf ta pf na ma368 wa cf369 ca370 ef ea xf xa] := hw
      refine lv_goto (tgt := 274) S.x S.b d_Mpg_checkStatement_208 (by decide) ?_
      exact px_vret S hr hlk hAe hw (Nat.le_of_ble_eq_true rfl) (Nat.le_of_ble_eq_true rfl) (⟨ma368, cf369, ca370, rfl, (show (cf369 30).toInt = 0 → (cf 30).toInt = 0 from by omega), (show WrV cf369 (tf 6).toInt from hwr), (show (cf369 37).toInt = (cf 37).toInt from by omega), (show (cf369 38).toInt = (cf 38).toInt from by omega), (show (cf369 43).toInt = (cf 43).toInt from by omega), (show (cf369 44).toInt = (cf 44).toInt from by omega), (show (cf369 45).toInt = (cf 45).toInt from by omega), (show (cf369 46).toInt = (cf 46).toInt from by omega), (show (cf369 47).toInt = (cf 47).toInt from by omega), (show (cf369 41).toInt = (cf 41).toInt from by omega), (show (cf369 55).toInt = (cf 55).toInt from by omega), (show (cf369 59).toInt = (cf 59).toInt from by omega), (show (cf 33).toInt ≤ (cf369 33).toInt from by omega), (show 6 * (cf369 33).toInt ≤ 6 * (cf 33).toInt + (w) from by omega), (show (cf 48).toInt ≤ (cf369 48).toInt from by omega), (show 6 * (cf369 48).toInt ≤ 6 * (cf 48).toInt + (w) from by omega), (show (cf 54).toInt ≤ (cf369 54).toInt from by omega), (show (cf 42).toInt ≤ (cf369 42).toInt from by omega), (show (cf369 54).toInt - (cf 54).toInt ≤ 4 * ((cf369 42).toInt - (cf 42).toInt) from by omega), (show (cf369 54).toInt - (cf 54).toInt ≤ 4096 * ((cf369 48).toInt - (cf 48).toInt) from by omega), (show (cf369 42).toInt - (cf 42).toInt ≤ 4096 * ((cf369 48).toInt - (cf 48).toInt) from by omega), (show KnT (tf 6).toInt ca370 (cf369 33).toInt from (KnT.eq hkt (by omega))), (show KnS ca370 (cf369 33).toInt (cf369 48).toInt ys from (KnS.eq hks (by omega) (by omega))), (show CaG ca ca370 (cf 33).toInt (cf 48).toInt from (hcg.le (by omega) (by omega))), (show SyR ca370 ys (cf369 48).toInt (cf369 54).toInt tx from (SyR.eq hsr (by omega) (by omega))), (show Ann na ma0 ma368 from han), (show FrC lo hi ma ma368 from hfc), (show ZTe cf369 ta ca370 na ma0 (cf369 48).toInt ys nf ma368 lo hi p0 (tgv (cf 44).toInt (cf 45).toInt) from (ZTe.to hts_p0 (fun q => by omega) (by omega) (by omega) (by omega) rfl))⟩) d_Mpg_checkStatement_274
    · simp only [List.mem_cons, List.not_mem_nil, or_false] at c58
      refine lv_aload_n S.x S.b d_Mpg_checkStatement_211 rfl (lv_at hl 0 rfl) ?_
      refine lv_iload_n S.x S.b d_Mpg_checkStatement_212 rfl (lv_at hl 1 rfl) ?_
      refine px_callv (pr := []) (px_runV (As := [.int p0]) (rest := []) S (c_mp_checkSwitch l D cs ma0 ys nf tx d lo hi w h r g tf ta pf na wa ef ea xf xa ma cf ca p0  (show 0 ≤ lo from by omega) (show hi ≤ (pf 13).toInt from by omega) (show (pf 13).toInt ≤ 2100 from by omega) (show (tf 6).toInt ≤ 2049 from by omega) (show 0 ≤ (cf 33).toInt from by omega) (show 0 ≤ w from by omega) (show 6 * (cf 33).toInt + w ≤ 6540 from by omega) (show 0 ≤ (cf 48).toInt from by omega) (show 6 * (cf 48).toInt + w ≤ 6540 from by omega) (show (cf 38).toInt = nf from by omega) (show 0 ≤ nf from by omega) (show 0 ≤ (cf 37).toInt from by omega) (show 0 ≤ (cf 54).toInt from by omega) (show (cf 54).toInt ≤ 4096 * (cf 48).toInt from by omega) (show 0 ≤ (cf 42).toInt from by omega) (show (cf 42).toInt ≤ 4 + 4096 * (cf 48).toInt from by omega) (show 0 ≤ (cf 44).toInt from by omega) (show 0 ≤ (cf 45).toInt from by omega) (show ys ≤ (cf 48).toInt ∨ tx = 1 from by omega) (show 0 ≤ (cf 46).toInt from by omega) (show (cf 46).toInt ≤ 1 from by omega) (show 0 ≤ (cf 47).toInt from by omega) (show (cf 47).toInt ≤ 1 from by omega) (show (cf 44).toInt + (d : Int) ≤ 400 from by omega) (show (cf 45).toInt + (d : Int) ≤ 400 from by omega) (show 0 ≤ (cf 43).toInt from by omega) (show (cf 43).toInt < 2100 from by omega) (show tx = 0 from by omega) (show (na 14 p0.toNatClampNeg).toInt = 28 from by omega) (show (cf 44).toInt + (d : Int) + 1 ≤ 400 from by omega) (show (cf 45).toInt + (d : Int) + 1 ≤ 400 from by omega) htk (FsI.le (N' := (pf 13).toInt) hfs (by omega)) hwr (KnT.eq hkt (by omega)) (FnT.eq hft (by omega)) (KnS.eq hks (by omega) (by omega)) hfp (SyR.eq hsr (by omega) (by omega)) han (show txo (cf 43).toInt = tx from by rw [show (cf 43).toInt = (cf 43).toInt by omega]; exact htx) hsc_p0 hLS _) hT (pr := []) (pcs := [wdP cs h r g tf ta pf na ma wa cf ca ef ea xf xa]) hw (oX_call (P := (fun A U H => (oP A g U H))) (pr := []) oG_P hw hA hP) (px_recv hT hw 0 0 rfl rfl rfl) m13_45 m13_42 m13_44 ms_13_8 m1_21 q_Mpg_checkSwitch ⟨show (6 * d + 29) + 1 ≤ (6 * (d + 1) + 26) from by omega, show 8 + (7 + 11) + (260 * d + 1020) ≤ (260 * (d + 1) + 900) from by omega⟩ hl.1 rfl (Nat.le_of_ble_eq_true rfl) d_Mpg_checkStatement_213 ⟨Nat.le_of_ble_eq_true rfl, Nat.le_of_ble_eq_true rfl⟩) hw hA (fun p406 H locs hp406 hw => ?_)
      obtain ⟨ma403, cf404, ca405, rfl, e408, e409, e410, e411, e412, e413, e414, e415, e416, e417, e418, e419, e420, e421, e422, e423, e424, e425, e426, e427, e428, e429, e430, e431, e432, e433, e434⟩ := hp406
      have e408 : (cf404 30).toInt = 0 → (cf 30).toInt = 0 := e408
      have e409 : WrV cf404 (tf 6).toInt := e409
      have hwr := e409
      have hw0_e409 := hwr.1
      have e410 : (cf404 37).toInt = (cf 37).toInt := e410
      have e411 : (cf404 38).toInt = (cf 38).toInt := e411
      have e412 : (cf404 43).toInt = (cf 43).toInt := e412
      have e413 : (cf404 44).toInt = (cf 44).toInt := e413
      have e414 : (cf404 45).toInt = (cf 45).toInt := e414
      have e415 : (cf404 46).toInt = (cf 46).toInt := e415
      have e416 : (cf404 47).toInt = (cf 47).toInt := e416
      have e417 : (cf404 41).toInt = (cf 41).toInt := e417
      have e418 : (cf404 55).toInt = (cf 55).toInt := e418
      have e419 : (cf404 59).toInt = (cf 59).toInt := e419
      have e420 : (cf404 33).toInt = (cf 33).toInt := e420
      have e421 : (cf 48).toInt ≤ (cf404 48).toInt := e421
      have e422 : 6 * (cf404 48).toInt ≤ 6 * (cf 48).toInt + (w) := e422
      have e423 : (cf 54).toInt ≤ (cf404 54).toInt := e423
      have e424 : (cf 42).toInt ≤ (cf404 42).toInt := e424
      have e425 : (cf404 54).toInt - (cf 54).toInt ≤ 4 * ((cf404 42).toInt - (cf 42).toInt) := e425
      have e426 : (cf404 54).toInt - (cf 54).toInt ≤ 4096 * ((cf404 48).toInt - (cf 48).toInt) := e426
      have e427 : (cf404 42).toInt - (cf 42).toInt ≤ 4096 * ((cf404 48).toInt - (cf 48).toInt) := e427
      have e428 : KnT (tf 6).toInt ca405 (cf404 33).toInt := e428
      have hkt := e428
      have hk11_e428 := hkt.1
      have e429 : KnS ca405 (cf404 33).toInt (cf404 48).toInt ys := e429
      have hks := e429
      have e430 : CaG ca ca405 (cf 33).toInt (cf 48).toInt := e430
      have hcg := hcg.tr e430 (by omega) (by omega)
      have hft := hft.cg e430
      have hfp := hfp.cg e430
      have e431 : SyR ca405 ys (cf404 48).toInt (cf404 54).toInt tx := e431
      have hsr := e431
      have e432 : Ann na ma0 ma403 := e432
      have han := e432
      have e433 : FrC lo hi ma ma403 := e433
      have hfc := hfc.tr e433 (by omega) (by omega)
      have e434 : ZTe cf404 ta ca405 na ma0 (cf404 48).toInt ys nf ma403 lo hi p0 (tgv (cf 44).toInt (cf 45).toInt) := e434
      have hts_p0 : ZTe cf404 ta ca405 na ma0 (cf404 48).toInt ys nf ma403 lo hi p0 (tgv (cf 44).toInt (cf 45).toInt) := ZTe.to e434 (fun q => by omega) (by omega) (Int.le_refl _) (Int.le_refl _) (by congr 1 <;> omega)
      have hw : pw D A s.heap H locs [wdP cs h r g tf ta pf na ma403 wa cf404 ca405 ef ea xf xa] := hw
      refine lv_goto (tgt := 274) S.x S.b d_Mpg_checkStatement_216 (by decide) ?_
      exact px_vret S hr hlk hAe hw (Nat.le_of_ble_eq_true rfl) (Nat.le_of_ble_eq_true rfl) (⟨ma403, cf404, ca405, rfl, (show (cf404 30).toInt = 0 → (cf 30).toInt = 0 from by omega), (show WrV cf404 (tf 6).toInt from hwr), (show (cf404 37).toInt = (cf 37).toInt from by omega), (show (cf404 38).toInt = (cf 38).toInt from by omega), (show (cf404 43).toInt = (cf 43).toInt from by omega), (show (cf404 44).toInt = (cf 44).toInt from by omega), (show (cf404 45).toInt = (cf 45).toInt from by omega), (show (cf404 46).toInt = (cf 46).toInt from by omega), (show (cf404 47).toInt = (cf 47).toInt from by omega), (show (cf404 41).toInt = (cf 41).toInt from by omega), (show (cf404 55).toInt = (cf 55).toInt from by omega), (show (cf404 59).toInt = (cf 59).toInt from by omega), (show (cf 33).toInt ≤ (cf404 33).toInt from by omega), (show 6 * (cf404 33).toInt ≤ 6 * (cf 33).toInt + (w) from by omega), (show (cf 48).toInt ≤ (cf404 48).toInt from by omega), (show 6 * (cf404 48).toInt ≤ 6 * (cf 48).toInt + (w) from by omega), (show (cf 54).toInt ≤ (cf404 54).toInt from by omega), (show (cf 42).toInt ≤ (cf404 42).toInt from by omega), (show (cf404 54).toInt - (cf 54).toInt ≤ 4 * ((cf404 42).toInt - (cf 42).toInt) from by omega), (show (cf404 54).toInt - (cf 54).toInt ≤ 4096 * ((cf404 48).toInt - (cf 48).toInt) from by omega), (show (cf404 42).toInt - (cf 42).toInt ≤ 4096 * ((cf404 48).toInt - (cf 48).toInt) from by omega), (show KnT (tf 6).toInt ca405 (cf404 33).toInt from (KnT.eq hkt (by omega))), (show KnS ca405 (cf404 33).toInt (cf404 48).toInt ys from (KnS.eq hks (by omega) (by omega))), (show CaG ca ca405 (cf 33).toInt (cf 48).toInt from (hcg.le (by omega) (by omega))), (show SyR ca405 ys (cf404 48).toInt (cf404 54).toInt tx from (SyR.eq hsr (by omega) (by omega))), (show Ann na ma0 ma403 from han), (show FrC lo hi ma ma403 from hfc), (show ZTe cf404 ta ca405 na ma0 (cf404 48).toInt ys nf ma403 lo hi p0 (tgv (cf 44).toInt (cf 45).toInt) from (ZTe.to hts_p0 (fun q => by omega) (by omega) (by omega) (by omega) rfl))⟩) d_Mpg_checkStatement_274
    · simp only [List.mem_cons, List.not_mem_nil, or_false] at c58
      refine lv_aload_n S.x S.b d_Mpg_checkStatement_227 rfl (lv_at hl 0 rfl) ?_
      refine px_get S k_Mpg hT hw 0 0 44 (v := .int (cf 44)) rfl rfl rfl (by decide) m10_35 d_Mpg_checkStatement_228 ?_
      refine lv_if_gt (tgt := 252) S.x S.b d_Mpg_checkStatement_231 (by decide) (fun c435 => ?_) (fun c435 => ?_)
      · have nc435 : (0 : Int) < (cf 44).toInt := (i_lt (x := 0) (y := (cf 44))).mp c435
        refine lv_iconst (v := 1) S.x S.b d_Mpg_checkStatement_252 (by decide) ?_
        refine lv_goto (tgt := 257) S.x S.b d_Mpg_checkStatement_253 (by decide) ?_
        refine lv_istore_n (lv' := [(2, .int 1), (0, .ref h), (1, .int p0)]) S.x S.b d_Mpg_checkStatement_257 rfl hl (by decide) rfl (fun ls hl => ?_)
        refine lv_iload_n S.x S.b d_Mpg_checkStatement_258 rfl (lv_at hl 0 rfl) ?_
        refine lv_if_ne (tgt := 274) S.x S.b d_Mpg_checkStatement_259 (by decide) (fun c436 => ?_) (fun c436 => ?_)
        ·
          exact px_vret S hr hlk hAe hw (Nat.le_of_ble_eq_true rfl) (Nat.le_of_ble_eq_true rfl) (⟨ma, cf, ca, rfl, (show (cf 30).toInt = 0 → (cf 30).toInt = 0 from by omega), (show WrV cf (tf 6).toInt from hwr), (show (cf 37).toInt = (cf 37).toInt from by omega), (show (cf 38).toInt = (cf 38).toInt from by omega), (show (cf 43).toInt = (cf 43).toInt from by omega), (show (cf 44).toInt = (cf 44).toInt from by omega), (show (cf 45).toInt = (cf 45).toInt from by omega), (show (cf 46).toInt = (cf 46).toInt from by omega), (show (cf 47).toInt = (cf 47).toInt from by omega), (show (cf 41).toInt = (cf 41).toInt from by omega), (show (cf 55).toInt = (cf 55).toInt from by omega), (show (cf 59).toInt = (cf 59).toInt from by omega), (show (cf 33).toInt ≤ (cf 33).toInt from by omega), (show 6 * (cf 33).toInt ≤ 6 * (cf 33).toInt + (w) from by omega), (show (cf 48).toInt ≤ (cf 48).toInt from by omega), (show 6 * (cf 48).toInt ≤ 6 * (cf 48).toInt + (w) from by omega), (show (cf 54).toInt ≤ (cf 54).toInt from by omega), (show (cf 42).toInt ≤ (cf 42).toInt from by omega), (show (cf 54).toInt - (cf 54).toInt ≤ 4 * ((cf 42).toInt - (cf 42).toInt) from by omega), (show (cf 54).toInt - (cf 54).toInt ≤ 4096 * ((cf 48).toInt - (cf 48).toInt) from by omega), (show (cf 42).toInt - (cf 42).toInt ≤ 4096 * ((cf 48).toInt - (cf 48).toInt) from by omega), (show KnT (tf 6).toInt ca (cf 33).toInt from (KnT.eq hkt (by omega))), (show KnS ca (cf 33).toInt (cf 48).toInt ys from (KnS.eq hks (by omega) (by omega))), (show CaG ca ca (cf 33).toInt (cf 48).toInt from (hcg.le (by omega) (by omega))), (show SyR ca ys (cf 48).toInt (cf 54).toInt tx from (SyR.eq hsr (by omega) (by omega))), (show Ann na ma0 ma from han), (show FrC lo hi ma ma from hfc), (show ZTe cf ta ca na ma0 (cf 48).toInt ys nf ma lo hi p0 (tgv (cf 44).toInt (cf 45).toInt) from (fun zz => by first | exact tys_0 ⟨by omega, by omega, by omega⟩ tgv_rng (by omega) | exact tys_j ⟨by omega, by omega, by omega⟩ (by omega) (tgv_4 (by omega)) | exact tys_31 ⟨by omega, by omega, by omega⟩ tgv_rng (by omega) (tgv_ge (by omega))))⟩) d_Mpg_checkStatement_274
        · exact absurd c436 (by decide)
      · have nc435 : ¬ (0 : Int) < (cf 44).toInt := mt (i_lt (x := 0) (y := (cf 44))).mpr c435
        refine lv_aload_n S.x S.b d_Mpg_checkStatement_234 rfl (lv_at hl 0 rfl) ?_
        refine px_get S k_Mpg hT hw 0 0 14 (v := .ref (r 14)) rfl rfl rfl (by decide) m9_238 d_Mpg_checkStatement_235 ?_
        refine lv_iload_n S.x S.b d_Mpg_checkStatement_238 rfl (lv_at hl 1 rfl) ?_
        refine px_bald S hT hw 0 10 (n := 2100) (f := (na 14)) rfl gp_14 (x := p0) (vp_in_iff.mpr (by constructor <;> omega)) d_Mpg_checkStatement_239 ?_
        refine lv_topi (fun z437 ez437 => ?_)
        have lz437 := Int32.le_toInt z437
        have uz437 := Int32.toInt_lt z437
        have rz437 := ScV.kd hsc_p0 ez437
        refine lv_bipush (v := 31) S.x S.b d_Mpg_checkStatement_240 (by decide) ?_
        refine lv_icmp_ne (tgt := 256) S.x S.b d_Mpg_checkStatement_242 (by decide) (fun c438 => ?_) (fun c438 => ?_)
        · have nc438 : ¬ z437.toInt = (31 : Int) := mt (i_eq (x := z437) (y := 31)).mpr c438
          refine lv_iconst (v := 0) S.x S.b d_Mpg_checkStatement_256 (by decide) ?_
          refine lv_istore_n (lv' := [(2, .int 0), (0, .ref h), (1, .int p0)]) S.x S.b d_Mpg_checkStatement_257 rfl hl (by decide) rfl (fun ls hl => ?_)
          refine lv_iload_n S.x S.b d_Mpg_checkStatement_258 rfl (lv_at hl 0 rfl) ?_
          refine lv_if_ne (tgt := 274) S.x S.b d_Mpg_checkStatement_259 (by decide) (fun c439 => ?_) (fun c439 => ?_)
          · exact absurd c439 (by decide)
          ·
            refine lv_aload_n S.x S.b d_Mpg_checkStatement_262 rfl (lv_at hl 1 rfl) ?_
            refine lv_bipush (v := 9) S.x S.b d_Mpg_checkStatement_263 (by decide) ?_
            refine lv_aload_n S.x S.b d_Mpg_checkStatement_265 rfl (lv_at hl 1 rfl) ?_
            refine px_get S k_Mpg hT hw 0 0 15 (v := .ref (r 15)) rfl rfl rfl (by decide) m9_239 d_Mpg_checkStatement_266 ?_
            refine lv_iload_n S.x S.b d_Mpg_checkStatement_269 rfl (lv_at hl 2 rfl) ?_
            refine px_iald S hT hw 0 11 (n := 2100) (f := (na 15)) rfl gp_15 (x := p0) (vp_in_iff.mpr (by constructor <;> omega)) d_Mpg_checkStatement_270 ?_
            refine lv_topi (fun z440 ez440 => ?_)
            have lz440 := Int32.le_toInt z440
            have uz440 := Int32.toInt_lt z440
            have rz440 := ScV.tok hsc_p0 ez440
            refine px_callv (pr := []) (px_runV (As := [.int 9, .int z440]) (rest := []) S (c_mp_bad l D cs h r g tf ta pf na ma wa ca ef ea xf xa cf 9 z440  (show 1 ≤ (9 : Int) from by omega) (show 0 ≤ z440.toInt from by omega) (show z440.toInt < (tf 6).toInt from by omega) htk hwr _) hT (pr := []) (pcs := [wdP cs h r g tf ta pf na ma wa cf ca ef ea xf xa]) hw px_X.tt (px_recv hT hw 0 0 rfl rfl rfl) m12_173 m12_170 m12_172 ms_11_12 m1_21 q_Mpg_bad ⟨show 0 + 1 ≤ (6 * (d + 1) + 26) from by omega, show 8 + (3 + 11) + 0 ≤ (260 * (d + 1) + 900) from by omega⟩ hl.1 rfl (Nat.le_of_ble_eq_true rfl) d_Mpg_checkStatement_271 ⟨Nat.le_of_ble_eq_true rfl, Nat.le_of_ble_eq_true rfl⟩) hw hA (fun p443 H locs hp443 hw => ?_)
            obtain ⟨cf442, rfl, e445, e446, e447, e448, e449, e450, e451, e452, e453, e454, e455, e456, e457, e458, e459, e460, e461, e462, e463⟩ := hp443
            have e445 : KpE cf cf442 := e445
            have hkz_e445 := e445.2
            have e446 : WrV cf442 (tf 6).toInt := e446
            have hwr := e446
            have hw0_e446 := hwr.1
            have e447 : 1 ≤ (cf442 30).toInt := e447
            have e448 : (cf442 33).toInt = (cf 33).toInt := e448
            have e449 : (cf442 38).toInt = (cf 38).toInt := e449
            have e450 : (cf442 48).toInt = (cf 48).toInt := e450
            have e451 : (cf442 46).toInt = (cf 46).toInt := e451
            have e452 : (cf442 47).toInt = (cf 47).toInt := e452
            have e453 : (cf442 57).toInt = (cf 57).toInt := e453
            have e454 : (cf442 37).toInt = (cf 37).toInt := e454
            have e455 : (cf442 42).toInt = (cf 42).toInt := e455
            have e456 : (cf442 43).toInt = (cf 43).toInt := e456
            have e457 : (cf442 44).toInt = (cf 44).toInt := e457
            have e458 : (cf442 45).toInt = (cf 45).toInt := e458
            have e459 : (cf442 54).toInt = (cf 54).toInt := e459
            have e460 : (cf442 55).toInt = (cf 55).toInt := e460
            have e461 : (cf442 58).toInt = (cf 58).toInt := e461
            have e462 : (cf442 59).toInt = (cf 59).toInt := e462
            have e463 : (cf442 41).toInt = (cf 41).toInt := e463
            have hw : pw D A s.heap H locs [wdP cs h r g tf ta pf na ma wa cf442 ca ef ea xf xa] := hw
            exact px_vret S hr hlk hAe hw (Nat.le_of_ble_eq_true rfl) (Nat.le_of_ble_eq_true rfl) (⟨ma, cf442, ca, rfl, (show (cf442 30).toInt = 0 → (cf 30).toInt = 0 from by omega), (show WrV cf442 (tf 6).toInt from hwr), (show (cf442 37).toInt = (cf 37).toInt from by omega), (show (cf442 38).toInt = (cf 38).toInt from by omega), (show (cf442 43).toInt = (cf 43).toInt from by omega), (show (cf442 44).toInt = (cf 44).toInt from by omega), (show (cf442 45).toInt = (cf 45).toInt from by omega), (show (cf442 46).toInt = (cf 46).toInt from by omega), (show (cf442 47).toInt = (cf 47).toInt from by omega), (show (cf442 41).toInt = (cf 41).toInt from by omega), (show (cf442 55).toInt = (cf 55).toInt from by omega), (show (cf442 59).toInt = (cf 59).toInt from by omega), (show (cf 33).toInt ≤ (cf442 33).toInt from by omega), (show 6 * (cf442 33).toInt ≤ 6 * (cf 33).toInt + (w) from by omega), (show (cf 48).toInt ≤ (cf442 48).toInt from by omega), (show 6 * (cf442 48).toInt ≤ 6 * (cf 48).toInt + (w) from by omega), (show (cf 54).toInt ≤ (cf442 54).toInt from by omega), (show (cf 42).toInt ≤ (cf442 42).toInt from by omega), (show (cf442 54).toInt - (cf 54).toInt ≤ 4 * ((cf442 42).toInt - (cf 42).toInt) from by omega), (show (cf442 54).toInt - (cf 54).toInt ≤ 4096 * ((cf442 48).toInt - (cf 48).toInt) from by omega), (show (cf442 42).toInt - (cf 42).toInt ≤ 4096 * ((cf442 48).toInt - (cf 48).toInt) from by omega), (show KnT (tf 6).toInt ca (cf442 33).toInt from (KnT.eq hkt (by omega))), (show KnS ca (cf442 33).toInt (cf442 48).toInt ys from (KnS.eq hks (by omega) (by omega))), (show CaG ca ca (cf 33).toInt (cf 48).toInt from (hcg.le (by omega) (by omega))), (show SyR ca ys (cf442 48).toInt (cf442 54).toInt tx from (SyR.eq hsr (by omega) (by omega))), (show Ann na ma0 ma from han), (show FrC lo hi ma ma from hfc), (show ZTe cf442 ta ca na ma0 (cf442 48).toInt ys nf ma lo hi p0 (tgv (cf 44).toInt (cf 45).toInt) from (zr_no (by omega)))⟩) d_Mpg_checkStatement_274
        · have nc438 : z437.toInt = (31 : Int) := (i_eq (x := z437) (y := 31)).mp c438
          refine lv_aload_n S.x S.b d_Mpg_checkStatement_245 rfl (lv_at hl 0 rfl) ?_
          refine px_get S k_Mpg hT hw 0 0 45 (v := .int (cf 45)) rfl rfl rfl (by decide) m10_36 d_Mpg_checkStatement_246 ?_
          refine lv_if_le (tgt := 256) S.x S.b d_Mpg_checkStatement_249 (by decide) (fun c464 => ?_) (fun c464 => ?_)
          · have nc464 : (cf 45).toInt ≤ (0 : Int) := (i_le (x := (cf 45)) (y := 0)).mp c464
            refine lv_iconst (v := 0) S.x S.b d_Mpg_checkStatement_256 (by decide) ?_
            refine lv_istore_n (lv' := [(2, .int 0), (0, .ref h), (1, .int p0)]) S.x S.b d_Mpg_checkStatement_257 rfl hl (by decide) rfl (fun ls hl => ?_)
            refine lv_iload_n S.x S.b d_Mpg_checkStatement_258 rfl (lv_at hl 0 rfl) ?_
            refine lv_if_ne (tgt := 274) S.x S.b d_Mpg_checkStatement_259 (by decide) (fun c465 => ?_) (fun c465 => ?_)
            · exact absurd c465 (by decide)
            ·
              refine lv_aload_n S.x S.b d_Mpg_checkStatement_262 rfl (lv_at hl 1 rfl) ?_
              refine lv_bipush (v := 9) S.x S.b d_Mpg_checkStatement_263 (by decide) ?_
              refine lv_aload_n S.x S.b d_Mpg_checkStatement_265 rfl (lv_at hl 1 rfl) ?_
              refine px_get S k_Mpg hT hw 0 0 15 (v := .ref (r 15)) rfl rfl rfl (by decide) m9_239 d_Mpg_checkStatement_266 ?_
              refine lv_iload_n S.x S.b d_Mpg_checkStatement_269 rfl (lv_at hl 2 rfl) ?_
              refine px_iald S hT hw 0 11 (n := 2100) (f := (na 15)) rfl gp_15 (x := p0) (vp_in_iff.mpr (by constructor <;> omega)) d_Mpg_checkStatement_270 ?_
              refine lv_topi (fun z466 ez466 => ?_)
              have lz466 := Int32.le_toInt z466
              have uz466 := Int32.toInt_lt z466
              have rz466 := ScV.tok hsc_p0 ez466
              refine px_callv (pr := []) (px_runV (As := [.int 9, .int z466]) (rest := []) S (c_mp_bad l D cs h r g tf ta pf na ma wa ca ef ea xf xa cf 9 z466  (show 1 ≤ (9 : Int) from by omega) (show 0 ≤ z466.toInt from by omega) (show z466.toInt < (tf 6).toInt from by omega) htk hwr _) hT (pr := []) (pcs := [wdP cs h r g tf ta pf na ma wa cf ca ef ea xf xa]) hw px_X.tt (px_recv hT hw 0 0 rfl rfl rfl) m12_173 m12_170 m12_172 ms_11_12 m1_21 q_Mpg_bad ⟨show 0 + 1 ≤ (6 * (d + 1) + 26) from by omega, show 8 + (3 + 11) + 0 ≤ (260 * (d + 1) + 900) from by omega⟩ hl.1 rfl (Nat.le_of_ble_eq_true rfl) d_Mpg_checkStatement_271 ⟨Nat.le_of_ble_eq_true rfl, Nat.le_of_ble_eq_true rfl⟩) hw hA (fun p469 H locs hp469 hw => ?_)
              obtain ⟨cf468, rfl, e471, e472, e473, e474, e475, e476, e477, e478, e479, e480, e481, e482, e483, e484, e485, e486, e487, e488, e489⟩ := hp469
              have e471 : KpE cf cf468 := e471
              have hkz_e471 := e471.2
              have e472 : WrV cf468 (tf 6).toInt := e472
              have hwr := e472
              have hw0_e472 := hwr.1
              have e473 : 1 ≤ (cf468 30).toInt := e473
              have e474 : (cf468 33).toInt = (cf 33).toInt := e474
              have e475 : (cf468 38).toInt = (cf 38).toInt := e475
              have e476 : (cf468 48).toInt = (cf 48).toInt := e476
              have e477 : (cf468 46).toInt = (cf 46).toInt := e477
              have e478 : (cf468 47).toInt = (cf 47).toInt := e478
              have e479 : (cf468 57).toInt = (cf 57).toInt := e479
              have e480 : (cf468 37).toInt = (cf 37).toInt := e480
              have e481 : (cf468 42).toInt = (cf 42).toInt := e481
              have e482 : (cf468 43).toInt = (cf 43).toInt := e482
              have e483 : (cf468 44).toInt = (cf 44).toInt := e483
              have e484 : (cf468 45).toInt = (cf 45).toInt := e484
              have e485 : (cf468 54).toInt = (cf 54).toInt := e485
              have e486 : (cf468 55).toInt = (cf 55).toInt := e486
              have e487 : (cf468 58).toInt = (cf 58).toInt := e487
              have e488 : (cf468 59).toInt = (cf 59).toInt := e488
              have e489 : (cf468 41).toInt = (cf 41).toInt := e489
              have hw : pw D A s.heap H locs [wdP cs h r g tf ta pf na ma wa cf468 ca ef ea xf xa] := hw
              exact px_vret S hr hlk hAe hw (Nat.le_of_ble_eq_true rfl) (Nat.le_of_ble_eq_true rfl) (⟨ma, cf468, ca, rfl, (show (cf468 30).toInt = 0 → (cf 30).toInt = 0 from by omega), (show WrV cf468 (tf 6).toInt from hwr), (show (cf468 37).toInt = (cf 37).toInt from by omega), (show (cf468 38).toInt = (cf 38).toInt from by omega), (show (cf468 43).toInt = (cf 43).toInt from by omega), (show (cf468 44).toInt = (cf 44).toInt from by omega), (show (cf468 45).toInt = (cf 45).toInt from by omega), (show (cf468 46).toInt = (cf 46).toInt from by omega), (show (cf468 47).toInt = (cf 47).toInt from by omega), (show (cf468 41).toInt = (cf 41).toInt from by omega), (show (cf468 55).toInt = (cf 55).toInt from by omega), (show (cf468 59).toInt = (cf 59).toInt from by omega), (show (cf 33).toInt ≤ (cf468 33).toInt from by omega), (show 6 * (cf468 33).toInt ≤ 6 * (cf 33).toInt + (w) from by omega), (show (cf 48).toInt ≤ (cf468 48).toInt from by omega), (show 6 * (cf468 48).toInt ≤ 6 * (cf 48).toInt + (w) from by omega), (show (cf 54).toInt ≤ (cf468 54).toInt from by omega), (show (cf 42).toInt ≤ (cf468 42).toInt from by omega), (show (cf468 54).toInt - (cf 54).toInt ≤ 4 * ((cf468 42).toInt - (cf 42).toInt) from by omega), (show (cf468 54).toInt - (cf 54).toInt ≤ 4096 * ((cf468 48).toInt - (cf 48).toInt) from by omega), (show (cf468 42).toInt - (cf 42).toInt ≤ 4096 * ((cf468 48).toInt - (cf 48).toInt) from by omega), (show KnT (tf 6).toInt ca (cf468 33).toInt from (KnT.eq hkt (by omega))), (show KnS ca (cf468 33).toInt (cf468 48).toInt ys from (KnS.eq hks (by omega) (by omega))), (show CaG ca ca (cf 33).toInt (cf 48).toInt from (hcg.le (by omega) (by omega))), (show SyR ca ys (cf468 48).toInt (cf468 54).toInt tx from (SyR.eq hsr (by omega) (by omega))), (show Ann na ma0 ma from han), (show FrC lo hi ma ma from hfc), (show ZTe cf468 ta ca na ma0 (cf468 48).toInt ys nf ma lo hi p0 (tgv (cf 44).toInt (cf 45).toInt) from (zr_no (by omega)))⟩) d_Mpg_checkStatement_274
          · have nc464 : ¬ (cf 45).toInt ≤ (0 : Int) := mt (i_le (x := (cf 45)) (y := 0)).mpr c464
            refine lv_iconst (v := 1) S.x S.b d_Mpg_checkStatement_252 (by decide) ?_
            refine lv_goto (tgt := 257) S.x S.b d_Mpg_checkStatement_253 (by decide) ?_
            refine lv_istore_n (lv' := [(2, .int 1), (0, .ref h), (1, .int p0)]) S.x S.b d_Mpg_checkStatement_257 rfl hl (by decide) rfl (fun ls hl => ?_)
            refine lv_iload_n S.x S.b d_Mpg_checkStatement_258 rfl (lv_at hl 0 rfl) ?_
            refine lv_if_ne (tgt := 274) S.x S.b d_Mpg_checkStatement_259 (by decide) (fun c490 => ?_) (fun c490 => ?_)
            ·
              exact px_vret S hr hlk hAe hw (Nat.le_of_ble_eq_true rfl) (Nat.le_of_ble_eq_true rfl) (⟨ma, cf, ca, rfl, (show (cf 30).toInt = 0 → (cf 30).toInt = 0 from by omega), (show WrV cf (tf 6).toInt from hwr), (show (cf 37).toInt = (cf 37).toInt from by omega), (show (cf 38).toInt = (cf 38).toInt from by omega), (show (cf 43).toInt = (cf 43).toInt from by omega), (show (cf 44).toInt = (cf 44).toInt from by omega), (show (cf 45).toInt = (cf 45).toInt from by omega), (show (cf 46).toInt = (cf 46).toInt from by omega), (show (cf 47).toInt = (cf 47).toInt from by omega), (show (cf 41).toInt = (cf 41).toInt from by omega), (show (cf 55).toInt = (cf 55).toInt from by omega), (show (cf 59).toInt = (cf 59).toInt from by omega), (show (cf 33).toInt ≤ (cf 33).toInt from by omega), (show 6 * (cf 33).toInt ≤ 6 * (cf 33).toInt + (w) from by omega), (show (cf 48).toInt ≤ (cf 48).toInt from by omega), (show 6 * (cf 48).toInt ≤ 6 * (cf 48).toInt + (w) from by omega), (show (cf 54).toInt ≤ (cf 54).toInt from by omega), (show (cf 42).toInt ≤ (cf 42).toInt from by omega), (show (cf 54).toInt - (cf 54).toInt ≤ 4 * ((cf 42).toInt - (cf 42).toInt) from by omega), (show (cf 54).toInt - (cf 54).toInt ≤ 4096 * ((cf 48).toInt - (cf 48).toInt) from by omega), (show (cf 42).toInt - (cf 42).toInt ≤ 4096 * ((cf 48).toInt - (cf 48).toInt) from by omega), (show KnT (tf 6).toInt ca (cf 33).toInt from (KnT.eq hkt (by omega))), (show KnS ca (cf 33).toInt (cf 48).toInt ys from (KnS.eq hks (by omega) (by omega))), (show CaG ca ca (cf 33).toInt (cf 48).toInt from (hcg.le (by omega) (by omega))), (show SyR ca ys (cf 48).toInt (cf 54).toInt tx from (SyR.eq hsr (by omega) (by omega))), (show Ann na ma0 ma from han), (show FrC lo hi ma ma from hfc), (show ZTe cf ta ca na ma0 (cf 48).toInt ys nf ma lo hi p0 (tgv (cf 44).toInt (cf 45).toInt) from (fun zz => by first | exact tys_0 ⟨by omega, by omega, by omega⟩ tgv_rng (by omega) | exact tys_j ⟨by omega, by omega, by omega⟩ (by omega) (tgv_4 (by omega)) | exact tys_31 ⟨by omega, by omega, by omega⟩ tgv_rng (by omega) (tgv_ge (by omega))))⟩) d_Mpg_checkStatement_274
            · exact absurd c490 (by decide)
    · simp only [List.mem_cons, List.not_mem_nil, or_false] at c58
      refine lv_aload_n S.x S.b d_Mpg_checkStatement_219 rfl (lv_at hl 0 rfl) ?_
      refine lv_iload_n S.x S.b d_Mpg_checkStatement_220 rfl (lv_at hl 1 rfl) ?_
      refine px_callv (pr := []) (px_runV (As := [.int p0]) (rest := []) S (c_mp_checkReturn l D cs ma0 ys nf tx d lo hi w h r g tf ta pf na wa ef ea xf xa ma cf ca p0  (show 0 ≤ lo from by omega) (show hi ≤ (pf 13).toInt from by omega) (show (pf 13).toInt ≤ 2100 from by omega) (show (tf 6).toInt ≤ 2049 from by omega) (show 0 ≤ (cf 33).toInt from by omega) (show 0 ≤ w from by omega) (show 6 * (cf 33).toInt + w ≤ 6540 from by omega) (show 0 ≤ (cf 48).toInt from by omega) (show 6 * (cf 48).toInt + w ≤ 6540 from by omega) (show (cf 38).toInt = nf from by omega) (show 0 ≤ nf from by omega) (show 0 ≤ (cf 37).toInt from by omega) (show 0 ≤ (cf 54).toInt from by omega) (show (cf 54).toInt ≤ 4096 * (cf 48).toInt from by omega) (show 0 ≤ (cf 42).toInt from by omega) (show (cf 42).toInt ≤ 4 + 4096 * (cf 48).toInt from by omega) (show 0 ≤ (cf 44).toInt from by omega) (show 0 ≤ (cf 45).toInt from by omega) (show ys ≤ (cf 48).toInt ∨ tx = 1 from by omega) (show 0 ≤ (cf 46).toInt from by omega) (show (cf 46).toInt ≤ 1 from by omega) (show 0 ≤ (cf 47).toInt from by omega) (show (cf 47).toInt ≤ 1 from by omega) (show (cf 44).toInt + (d : Int) ≤ 400 from by omega) (show (cf 45).toInt + (d : Int) ≤ 400 from by omega) (show 0 ≤ (cf 43).toInt from by omega) (show (cf 43).toInt < 2100 from by omega) (show tx = 0 from by omega) (show (na 14 p0.toNatClampNeg).toInt = 33 from by omega) htk (FsI.le (N' := (pf 13).toInt) hfs (by omega)) hwr (KnT.eq hkt (by omega)) (FnT.eq hft (by omega)) (KnS.eq hks (by omega) (by omega)) hfp (SyR.eq hsr (by omega) (by omega)) han (show txo (cf 43).toInt = tx from by rw [show (cf 43).toInt = (cf 43).toInt by omega]; exact htx) hsc_p0 hLS _) hT (pr := []) (pcs := [wdP cs h r g tf ta pf na ma wa cf ca ef ea xf xa]) hw (oX_call (P := (fun A U H => (oP A g U H))) (pr := []) oG_P hw hA hP) (px_recv hT hw 0 0 rfl rfl rfl) m13_49 m13_46 m13_48 ms_13_9 m1_21 q_Mpg_checkReturn ⟨show (6 * d + 27) + 1 ≤ (6 * (d + 1) + 26) from by omega, show 8 + (3 + 11) + (260 * d + 940) ≤ (260 * (d + 1) + 900) from by omega⟩ hl.1 rfl (Nat.le_of_ble_eq_true rfl) d_Mpg_checkStatement_221 ⟨Nat.le_of_ble_eq_true rfl, Nat.le_of_ble_eq_true rfl⟩) hw hA (fun p497 H locs hp497 hw => ?_)
      obtain ⟨ma494, cf495, ca496, rfl, e499, e500, e501, e502, e503, e504, e505, e506, e507, e508, e509, e510, e511, e512, e513, e514, e515, e516, e517, e518, e519, e520, e521, e522, e523, e524, e525⟩ := hp497
      have e499 : (cf495 30).toInt = 0 → (cf 30).toInt = 0 := e499
      have e500 : WrV cf495 (tf 6).toInt := e500
      have hwr := e500
      have hw0_e500 := hwr.1
      have e501 : (cf495 37).toInt = (cf 37).toInt := e501
      have e502 : (cf495 38).toInt = (cf 38).toInt := e502
      have e503 : (cf495 43).toInt = (cf 43).toInt := e503
      have e504 : (cf495 44).toInt = (cf 44).toInt := e504
      have e505 : (cf495 45).toInt = (cf 45).toInt := e505
      have e506 : (cf495 46).toInt = (cf 46).toInt := e506
      have e507 : (cf495 47).toInt = (cf 47).toInt := e507
      have e508 : (cf495 41).toInt = (cf 41).toInt := e508
      have e509 : (cf495 55).toInt = (cf 55).toInt := e509
      have e510 : (cf495 59).toInt = (cf 59).toInt := e510
      have e511 : (cf495 33).toInt = (cf 33).toInt := e511
      have e512 : (cf 48).toInt ≤ (cf495 48).toInt := e512
      have e513 : 6 * (cf495 48).toInt ≤ 6 * (cf 48).toInt + (w) := e513
      have e514 : (cf 54).toInt ≤ (cf495 54).toInt := e514
      have e515 : (cf 42).toInt ≤ (cf495 42).toInt := e515
      have e516 : (cf495 54).toInt - (cf 54).toInt ≤ 4 * ((cf495 42).toInt - (cf 42).toInt) := e516
      have e517 : (cf495 54).toInt - (cf 54).toInt ≤ 4096 * ((cf495 48).toInt - (cf 48).toInt) := e517
      have e518 : (cf495 42).toInt - (cf 42).toInt ≤ 4096 * ((cf495 48).toInt - (cf 48).toInt) := e518
      have e519 : KnT (tf 6).toInt ca496 (cf495 33).toInt := e519
      have hkt := e519
      have hk11_e519 := hkt.1
      have e520 : KnS ca496 (cf495 33).toInt (cf495 48).toInt ys := e520
      have hks := e520
      have e521 : CaG ca ca496 (cf 33).toInt (cf 48).toInt := e521
      have hcg := hcg.tr e521 (by omega) (by omega)
      have hft := hft.cg e521
      have hfp := hfp.cg e521
      have e522 : SyR ca496 ys (cf495 48).toInt (cf495 54).toInt tx := e522
      have hsr := e522
      have e523 : Ann na ma0 ma494 := e523
      have han := e523
      have e524 : FrC lo hi ma ma494 := e524
      have hfc := hfc.tr e524 (by omega) (by omega)
      have e525 : ZTe cf495 ta ca496 na ma0 (cf495 48).toInt ys nf ma494 lo hi p0 (tgv (cf 44).toInt (cf 45).toInt) := e525
      have hts_p0 : ZTe cf495 ta ca496 na ma0 (cf495 48).toInt ys nf ma494 lo hi p0 (tgv (cf 44).toInt (cf 45).toInt) := ZTe.to e525 (fun q => by omega) (by omega) (Int.le_refl _) (Int.le_refl _) (by congr 1 <;> omega)
      have hw : pw D A s.heap H locs [wdP cs h r g tf ta pf na ma494 wa cf495 ca496 ef ea xf xa] := hw
      refine lv_goto (tgt := 274) S.x S.b d_Mpg_checkStatement_224 (by decide) ?_
      exact px_vret S hr hlk hAe hw (Nat.le_of_ble_eq_true rfl) (Nat.le_of_ble_eq_true rfl) (⟨ma494, cf495, ca496, rfl, (show (cf495 30).toInt = 0 → (cf 30).toInt = 0 from by omega), (show WrV cf495 (tf 6).toInt from hwr), (show (cf495 37).toInt = (cf 37).toInt from by omega), (show (cf495 38).toInt = (cf 38).toInt from by omega), (show (cf495 43).toInt = (cf 43).toInt from by omega), (show (cf495 44).toInt = (cf 44).toInt from by omega), (show (cf495 45).toInt = (cf 45).toInt from by omega), (show (cf495 46).toInt = (cf 46).toInt from by omega), (show (cf495 47).toInt = (cf 47).toInt from by omega), (show (cf495 41).toInt = (cf 41).toInt from by omega), (show (cf495 55).toInt = (cf 55).toInt from by omega), (show (cf495 59).toInt = (cf 59).toInt from by omega), (show (cf 33).toInt ≤ (cf495 33).toInt from by omega), (show 6 * (cf495 33).toInt ≤ 6 * (cf 33).toInt + (w) from by omega), (show (cf 48).toInt ≤ (cf495 48).toInt from by omega), (show 6 * (cf495 48).toInt ≤ 6 * (cf 48).toInt + (w) from by omega), (show (cf 54).toInt ≤ (cf495 54).toInt from by omega), (show (cf 42).toInt ≤ (cf495 42).toInt from by omega), (show (cf495 54).toInt - (cf 54).toInt ≤ 4 * ((cf495 42).toInt - (cf 42).toInt) from by omega), (show (cf495 54).toInt - (cf 54).toInt ≤ 4096 * ((cf495 48).toInt - (cf 48).toInt) from by omega), (show (cf495 42).toInt - (cf 42).toInt ≤ 4096 * ((cf495 48).toInt - (cf 48).toInt) from by omega), (show KnT (tf 6).toInt ca496 (cf495 33).toInt from (KnT.eq hkt (by omega))), (show KnS ca496 (cf495 33).toInt (cf495 48).toInt ys from (KnS.eq hks (by omega) (by omega))), (show CaG ca ca496 (cf 33).toInt (cf 48).toInt from (hcg.le (by omega) (by omega))), (show SyR ca496 ys (cf495 48).toInt (cf495 54).toInt tx from (SyR.eq hsr (by omega) (by omega))), (show Ann na ma0 ma494 from han), (show FrC lo hi ma ma494 from hfc), (show ZTe cf495 ta ca496 na ma0 (cf495 48).toInt ys nf ma494 lo hi p0 (tgv (cf 44).toInt (cf 45).toInt) from (ZTe.to hts_p0 (fun q => by omega) (by omega) (by omega) (by omega) rfl))⟩) d_Mpg_checkStatement_274
theorem stc_all (l : Launch) (D : va_G) (cs : Nat → ClassId) : ∀ d : Nat, StC l D cs d := by
  intro d
  induction d with
  | zero => intro ma0 ys nf tx lo hi w h r g tf ta pf na wa ef ea xf xa ma cf ca p0 g0 g1 g2 g3 g4 g5 g6 g7 g8 g9 g10 g11 g12 g13 g14 g15 g16 g17 g18 g19 g20 g21 g22 g23 g24 g25 g26 g27 htk hfs hwr hkt hft hks hfp hsr han htx hsc; exact (sc_0 hsc).elim
  | succ d ih => intro ma0 ys nf tx lo hi w h r g tf ta pf na wa ef ea xf xa ma cf ca p0 g0 g1 g2 g3 g4 g5 g6 g7 g8 g9 g10 g11 g12 g13 g14 g15 g16 g17 g18 g19 g20 g21 g22 g23 g24 g25 g26 g27 htk hfs hwr hkt hft hks hfp hsr han htx hsc; exact c_mp_checkStatement l D cs ma0 ys nf tx d lo hi w h r g tf ta pf na wa ef ea xf xa ma cf ca p0 g0 g1 g2 g3 g4 g5 g6 g7 g8 g9 g10 g11 g12 g13 g14 g15 g16 g17 g18 g19 g20 g21 g22 g23 g24 g25 g26 g27 htk hfs hwr hkt hft hks hfp hsr han htx hsc ih
