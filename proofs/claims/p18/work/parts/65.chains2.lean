set_option maxHeartbeats 4000000 in
set_option maxRecDepth 100000 in
theorem c_pe_emitc (l : Launch) (D : va_G) (cs : Nat → ClassId) (hp : Nat) (rp : Nat → Nat) (of : Option Nat) (cn : Nat) (fp : Nat → Int32) (cd : Nat → Int32) (p0 p1 p2 p3 : Int32)  (g0 : cn % 4 = 0) (g1 : cn ≤ 100000) (hpk : Pok cn (fp 3) cd) (hj : Jop p0 p1) : MetI l y_Prg_emit b_Prg_emit 6 (.int) D cs 0 0 (0) (0) [.ref hp, .int p0, .int p1, .int p2, .int p3] [wd_Prg cs hp rp (fun k => if k = 2 then of else none) fp (fun _ _ => 0) (fun _ _ => none), [((rp 1), .inl (cs 0, cn, .inl cd))]] (fun _ => True) (fun v ps => ∃ (fp' cd' : Nat → Int32), ps = [wd_Prg cs hp rp (fun k => if k = 2 then of else none) fp' (fun _ _ => 0) (fun _ _ => none), [((rp 1), .inl (cs 0, cn, .inl cd'))]] ∧ v = fp 3 ∧ Prel cn (fp 3) cd (fp' 3) cd' ∧ (((fp' 3).toInt = (fp 3).toInt + 4 ∧ (fp 3).toInt + 4 ≤ (cn : Int)) ∨ ((fp' 3).toInt = (fp 3).toInt ∧ (fp 3).toInt = (cn : Int))) ∧ fp' 0 = fp 0 ∧ fp' 4 = fp 4 ∧ fp' 5 = fp 5 ∧ ((fp' 3).toInt = (fp 3).toInt + 4 → ∀ i : Nat, (i : Int) = (fp 3).toInt + 1 → cd' i = p1) ∧ R_pe_emitc cn p0 p1 p2 p3 fp cd fp' cd' v) := by
  refine px_enter (by decide) (Nat.le_of_ble_eq_true rfl) ?_
  intro p e s m below meth c A ls hAe S hr hlk hnm hA hT hX hw hl
  have hl : lv_has ls 6 [(0, .ref hp), (1, .int p0), (2, .int p1), (3, .int p2), (4, .int p3)] := hl
  have lp0 := Int32.le_toInt p0
  have up0 := Int32.toInt_lt p0
  have lp1 := Int32.le_toInt p1
  have up1 := Int32.toInt_lt p1
  have lp2 := Int32.le_toInt p2
  have up2 := Int32.toInt_lt p2
  have lp3 := Int32.le_toInt p3
  have up3 := Int32.toInt_lt p3
  have cst1 : (1 : Int32).toInt = 1 := rfl
  have cst2 : (2 : Int32).toInt = 2 := rfl
  have cst3 : (3 : Int32).toInt = 3 := rfl
  have cst4 : (4 : Int32).toInt = 4 := rfl
  have hcn : (nI cn).toInt = (cn : Int) := nI_toInt (by omega)
  have pz := hpk.1
  refine lv_aload_n S.x S.b d_Prg_emit_0 rfl (lv_at hl 0 rfl) ?_
  refine px_get S k_Prg hT hw 0 0 3 (v := .int (fp 3)) rfl rfl rfl (by decide) m2_105 d_Prg_emit_1 ?_
  refine lv_istore (lv' := [(5, .int (fp 3)), (0, .ref hp), (1, .int p0), (2, .int p1), (3, .int p2), (4, .int p3)]) S.x S.b d_Prg_emit_4 hl (by decide) rfl (fun ls hl => ?_)
  refine lv_iload S.x S.b d_Prg_emit_6 (lv_at hl 0 rfl) ?_
  refine lv_if_lt (tgt := 70) S.x S.b d_Prg_emit_8 (by decide) (fun c1 => ?_) (fun c1 => ?_)
  · have nc1 : (fp 3).toInt < (0 : Int) := (i_lt (x := (fp 3)) (y := 0)).mp c1
    refine lv_iload S.x S.b d_Prg_emit_70 (lv_at hl 0 rfl) ?_
    exact px_iret (v := (fp 3)) S hr rfl hlk hAe hw (Nat.le_of_ble_eq_true rfl) (Nat.le_of_ble_eq_true rfl) (⟨fp, cd, rfl, rfl, (show Prel cn (fp 3) cd (fp 3) cd from Prel.rf hpk), (show ((fp 3).toInt = (fp 3).toInt + 4 ∧ (fp 3).toInt + 4 ≤ (cn : Int)) ∨ ((fp 3).toInt = (fp 3).toInt ∧ (fp 3).toInt = (cn : Int)) from Or.inr ⟨by omega, by omega⟩), (show (fp 0) = (fp 0) from rfl), (show (fp 4) = (fp 4) from rfl), (show (fp 5) = (fp 5) from rfl), (show (fp 3).toInt = (fp 3).toInt + 4 → ∀ i : Nat, (i : Int) = (fp 3).toInt + 1 → cd i = p1 from (fun h => absurd h (by omega))), (Or.inl (Or.inl ⟨nc1, rfl, rfl, rfl⟩))⟩) d_Prg_emit_72
  · have nc1 : ¬ (fp 3).toInt < (0 : Int) := mt (i_lt (x := (fp 3)) (y := 0)).mpr c1
    refine lv_iload S.x S.b d_Prg_emit_11 (lv_at hl 0 rfl) ?_
    refine lv_iconst (v := 4) S.x S.b d_Prg_emit_13 (by decide) ?_
    refine lv_iadd S.x S.b d_Prg_emit_14 ?_
    have lr3 := Int32.le_toInt (fp 3)
    have ur3 := Int32.toInt_lt (fp 3)
    refine lv_topi (fun z4 ez4 => ?_)
    have tz4 : z4.toInt = ((fp 3).toInt + (4 : Int) + 2147483648) % 4294967296 - 2147483648 := by rw [ez4]; exact i_add (fp 3) 4
    have lz4 := Int32.le_toInt z4
    have uz4 := Int32.toInt_lt z4
    try replace tz4 : z4.toInt = (fp 3).toInt + (4 : Int) := by omega
    refine lv_aload_n S.x S.b d_Prg_emit_15 rfl (lv_at hl 1 rfl) ?_
    refine px_get S k_Prg hT hw 0 0 1 (v := .ref (rp 1)) rfl rfl rfl (by decide) m2_99 d_Prg_emit_16 ?_
    refine px_len S hT hw 1 0 0 rfl rfl rfl (v := (nI cn)) rfl d_Prg_emit_19 ?_
    refine lv_icmp_gt (tgt := 70) S.x S.b d_Prg_emit_20 (by decide) (fun c5 => ?_) (fun c5 => ?_)
    · have nc5 : (nI cn).toInt < z4.toInt := (i_lt (x := (nI cn)) (y := z4)).mp c5
      refine lv_iload S.x S.b d_Prg_emit_70 (lv_at hl 0 rfl) ?_
      exact px_iret (v := (fp 3)) S hr rfl hlk hAe hw (Nat.le_of_ble_eq_true rfl) (Nat.le_of_ble_eq_true rfl) (⟨fp, cd, rfl, rfl, (show Prel cn (fp 3) cd (fp 3) cd from Prel.rf hpk), (show ((fp 3).toInt = (fp 3).toInt + 4 ∧ (fp 3).toInt + 4 ≤ (cn : Int)) ∨ ((fp 3).toInt = (fp 3).toInt ∧ (fp 3).toInt = (cn : Int)) from Or.inr ⟨by omega, by omega⟩), (show (fp 0) = (fp 0) from rfl), (show (fp 4) = (fp 4) from rfl), (show (fp 5) = (fp 5) from rfl), (show (fp 3).toInt = (fp 3).toInt + 4 → ∀ i : Nat, (i : Int) = (fp 3).toInt + 1 → cd i = p1 from (fun h => absurd h (by omega))), (Or.inl (Or.inr ⟨nc1, z4, ez4, Or.inl ⟨nc5, rfl, rfl, rfl⟩⟩))⟩) d_Prg_emit_72
    · have nc5 : ¬ (nI cn).toInt < z4.toInt := mt (i_lt (x := (nI cn)) (y := z4)).mpr c5
      refine lv_aload_n S.x S.b d_Prg_emit_23 rfl (lv_at hl 1 rfl) ?_
      refine px_get S k_Prg hT hw 0 0 1 (v := .ref (rp 1)) rfl rfl rfl (by decide) m2_99 d_Prg_emit_24 ?_
      refine lv_iload S.x S.b d_Prg_emit_27 (lv_at hl 0 rfl) ?_
      refine lv_iload_n S.x S.b d_Prg_emit_29 rfl (lv_at hl 2 rfl) ?_
      refine px_iast S hT hw 1 0 (n := cn) (f := cd) (x := (fp 3)) (y := p0) rfl rfl (vp_in_iff.mpr (by constructor <;> omega)) d_Prg_emit_30 (w' := [((rp 1), .inl (cs 0, cn, .inl (upd cd (fp 3).toNatClampNeg p0)))]) (ps' := [wd_Prg cs hp rp (fun k => if k = 2 then of else none) fp (fun _ _ => 0) (fun _ _ => none), [((rp 1), .inl (cs 0, cn, .inl (upd cd (fp 3).toNatClampNeg p0)))]]) rfl rfl (fun H locs hw => ?_)
      refine lv_aload_n S.x S.b d_Prg_emit_31 rfl (lv_at hl 1 rfl) ?_
      refine px_get S k_Prg hT hw 0 0 1 (v := .ref (rp 1)) rfl rfl rfl (by decide) m2_99 d_Prg_emit_32 ?_
      refine lv_iload S.x S.b d_Prg_emit_35 (lv_at hl 0 rfl) ?_
      refine lv_iconst (v := 1) S.x S.b d_Prg_emit_37 (by decide) ?_
      refine lv_iadd S.x S.b d_Prg_emit_38 ?_
      have lr7 := Int32.le_toInt (fp 3)
      have ur7 := Int32.toInt_lt (fp 3)
      refine lv_topi (fun z8 ez8 => ?_)
      have tz8 : z8.toInt = ((fp 3).toInt + (1 : Int) + 2147483648) % 4294967296 - 2147483648 := by rw [ez8]; exact i_add (fp 3) 1
      have lz8 := Int32.le_toInt z8
      have uz8 := Int32.toInt_lt z8
      try replace tz8 : z8.toInt = (fp 3).toInt + (1 : Int) := by omega
      refine lv_iload_n S.x S.b d_Prg_emit_39 rfl (lv_at hl 3 rfl) ?_
      refine px_iast S hT hw 1 0 (n := cn) (f := (upd cd (fp 3).toNatClampNeg p0)) (x := z8) (y := p1) rfl rfl (vp_in_iff.mpr (by constructor <;> omega)) d_Prg_emit_40 (w' := [((rp 1), .inl (cs 0, cn, .inl (upd (upd cd (fp 3).toNatClampNeg p0) z8.toNatClampNeg p1)))]) (ps' := [wd_Prg cs hp rp (fun k => if k = 2 then of else none) fp (fun _ _ => 0) (fun _ _ => none), [((rp 1), .inl (cs 0, cn, .inl (upd (upd cd (fp 3).toNatClampNeg p0) z8.toNatClampNeg p1)))]]) rfl rfl (fun H locs hw => ?_)
      refine lv_aload_n S.x S.b d_Prg_emit_41 rfl (lv_at hl 1 rfl) ?_
      refine px_get S k_Prg hT hw 0 0 1 (v := .ref (rp 1)) rfl rfl rfl (by decide) m2_99 d_Prg_emit_42 ?_
      refine lv_iload S.x S.b d_Prg_emit_45 (lv_at hl 0 rfl) ?_
      refine lv_iconst (v := 2) S.x S.b d_Prg_emit_47 (by decide) ?_
      refine lv_iadd S.x S.b d_Prg_emit_48 ?_
      have lr9 := Int32.le_toInt (fp 3)
      have ur9 := Int32.toInt_lt (fp 3)
      refine lv_topi (fun z10 ez10 => ?_)
      have tz10 : z10.toInt = ((fp 3).toInt + (2 : Int) + 2147483648) % 4294967296 - 2147483648 := by rw [ez10]; exact i_add (fp 3) 2
      have lz10 := Int32.le_toInt z10
      have uz10 := Int32.toInt_lt z10
      try replace tz10 : z10.toInt = (fp 3).toInt + (2 : Int) := by omega
      refine lv_iload_n S.x S.b d_Prg_emit_49 rfl (lv_at hl 4 rfl) ?_
      refine px_iast S hT hw 1 0 (n := cn) (f := (upd (upd cd (fp 3).toNatClampNeg p0) z8.toNatClampNeg p1)) (x := z10) (y := p2) rfl rfl (vp_in_iff.mpr (by constructor <;> omega)) d_Prg_emit_50 (w' := [((rp 1), .inl (cs 0, cn, .inl (upd (upd (upd cd (fp 3).toNatClampNeg p0) z8.toNatClampNeg p1) z10.toNatClampNeg p2)))]) (ps' := [wd_Prg cs hp rp (fun k => if k = 2 then of else none) fp (fun _ _ => 0) (fun _ _ => none), [((rp 1), .inl (cs 0, cn, .inl (upd (upd (upd cd (fp 3).toNatClampNeg p0) z8.toNatClampNeg p1) z10.toNatClampNeg p2)))]]) rfl rfl (fun H locs hw => ?_)
      refine lv_aload_n S.x S.b d_Prg_emit_51 rfl (lv_at hl 1 rfl) ?_
      refine px_get S k_Prg hT hw 0 0 1 (v := .ref (rp 1)) rfl rfl rfl (by decide) m2_99 d_Prg_emit_52 ?_
      refine lv_iload S.x S.b d_Prg_emit_55 (lv_at hl 0 rfl) ?_
      refine lv_iconst (v := 3) S.x S.b d_Prg_emit_57 (by decide) ?_
      refine lv_iadd S.x S.b d_Prg_emit_58 ?_
      have lr11 := Int32.le_toInt (fp 3)
      have ur11 := Int32.toInt_lt (fp 3)
      refine lv_topi (fun z12 ez12 => ?_)
      have tz12 : z12.toInt = ((fp 3).toInt + (3 : Int) + 2147483648) % 4294967296 - 2147483648 := by rw [ez12]; exact i_add (fp 3) 3
      have lz12 := Int32.le_toInt z12
      have uz12 := Int32.toInt_lt z12
      try replace tz12 : z12.toInt = (fp 3).toInt + (3 : Int) := by omega
      refine lv_iload S.x S.b d_Prg_emit_59 (lv_at hl 5 rfl) ?_
      refine px_iast S hT hw 1 0 (n := cn) (f := (upd (upd (upd cd (fp 3).toNatClampNeg p0) z8.toNatClampNeg p1) z10.toNatClampNeg p2)) (x := z12) (y := p3) rfl rfl (vp_in_iff.mpr (by constructor <;> omega)) d_Prg_emit_61 (w' := [((rp 1), .inl (cs 0, cn, .inl (upd (upd (upd (upd cd (fp 3).toNatClampNeg p0) z8.toNatClampNeg p1) z10.toNatClampNeg p2) z12.toNatClampNeg p3)))]) (ps' := [wd_Prg cs hp rp (fun k => if k = 2 then of else none) fp (fun _ _ => 0) (fun _ _ => none), [((rp 1), .inl (cs 0, cn, .inl (upd (upd (upd (upd cd (fp 3).toNatClampNeg p0) z8.toNatClampNeg p1) z10.toNatClampNeg p2) z12.toNatClampNeg p3)))]]) rfl rfl (fun H locs hw => ?_)
      refine lv_aload_n S.x S.b d_Prg_emit_62 rfl (lv_at hl 1 rfl) ?_
      refine lv_iload S.x S.b d_Prg_emit_63 (lv_at hl 0 rfl) ?_
      refine lv_iconst (v := 4) S.x S.b d_Prg_emit_65 (by decide) ?_
      refine lv_iadd S.x S.b d_Prg_emit_66 ?_
      have lr13 := Int32.le_toInt (fp 3)
      have ur13 := Int32.toInt_lt (fp 3)
      refine lv_topi (fun z14 ez14 => ?_)
      have tz14 : z14.toInt = ((fp 3).toInt + (4 : Int) + 2147483648) % 4294967296 - 2147483648 := by rw [ez14]; exact i_add (fp 3) 4
      have lz14 := Int32.le_toInt z14
      have uz14 := Int32.toInt_lt z14
      try replace tz14 : z14.toInt = (fp 3).toInt + (4 : Int) := by omega
      refine px_put S k_Prg hT hw 0 0 3 rfl rfl (by decide) m2_105 rfl rfl rfl (Nat.le_of_ble_eq_true rfl) d_Prg_emit_67 (w' := wd_Prg cs hp rp (fun k => if k = 2 then of else none) (upd fp 3 z14) (fun _ _ => 0) (fun _ _ => none)) (ps' := [wd_Prg cs hp rp (fun k => if k = 2 then of else none) (upd fp 3 z14) (fun _ _ => 0) (fun _ _ => none), [((rp 1), .inl (cs 0, cn, .inl (upd (upd (upd (upd cd (fp 3).toNatClampNeg p0) z8.toNatClampNeg p1) z10.toNatClampNeg p2) z12.toNatClampNeg p3)))]]) rfl rfl (fun H locs hw => ?_)
      refine lv_iload S.x S.b d_Prg_emit_70 (lv_at hl 0 rfl) ?_
      exact px_iret (v := (fp 3)) S hr rfl hlk hAe hw (Nat.le_of_ble_eq_true rfl) (Nat.le_of_ble_eq_true rfl) (⟨(upd fp 3 z14), (upd (upd (upd (upd cd (fp 3).toNatClampNeg p0) z8.toNatClampNeg p1) z10.toNatClampNeg p2) z12.toNatClampNeg p3), rfl, rfl, (show Prel cn (fp 3) cd z14 (upd (upd (upd (upd cd (fp 3).toNatClampNeg p0) z8.toNatClampNeg p1) z10.toNatClampNeg p2) z12.toNatClampNeg p3) from (by have hq : (upd (upd (upd (upd cd (fp 3).toNatClampNeg p0) z8.toNatClampNeg p1) z10.toNatClampNeg p2) z12.toNatClampNeg p3) = em4 cd (fp 3) p0 p1 p2 p3 := (by unfold em4; rw [ez8, ez10, ez12]); rw [hq]; exact em4_rel hpk.2 (by omega) (by omega) (by omega) (by omega) (by omega) hj)), (show (z14.toInt = (fp 3).toInt + 4 ∧ (fp 3).toInt + 4 ≤ (cn : Int)) ∨ (z14.toInt = (fp 3).toInt ∧ (fp 3).toInt = (cn : Int)) from Or.inl ⟨by omega, by omega⟩), (show (fp 0) = (fp 0) from rfl), (show (fp 4) = (fp 4) from rfl), (show (fp 5) = (fp 5) from rfl), (show z14.toInt = (fp 3).toInt + 4 → ∀ i : Nat, (i : Int) = (fp 3).toInt + 1 → (upd (upd (upd (upd cd (fp 3).toNatClampNeg p0) z8.toNatClampNeg p1) z10.toNatClampNeg p2) z12.toNatClampNeg p3) i = p1 from (fun _ i hi => by have hq : (upd (upd (upd (upd cd (fp 3).toNatClampNeg p0) z8.toNatClampNeg p1) z10.toNatClampNeg p2) z12.toNatClampNeg p3) = em4 cd (fp 3) p0 p1 p2 p3 := (by unfold em4; rw [ez8, ez10, ez12]); rw [hq]; exact em4_at1 (by omega) (by omega) hi)), (Or.inl (Or.inr ⟨nc1, z4, ez4, Or.inr ⟨nc5, z8, ez8, z10, ez10, z12, ez12, z14, ez14, rfl, rfl, rfl⟩⟩))⟩) d_Prg_emit_72
set_option maxHeartbeats 4000000 in
set_option maxRecDepth 100000 in
theorem c_pe_aimc (l : Launch) (D : va_G) (cs : Nat → ClassId) (hp : Nat) (rp : Nat → Nat) (of : Option Nat) (cn : Nat) (fp : Nat → Int32) (cd : Nat → Int32) (p0 p1 : Int32) (col : Nat → Nat) (kc : Nat) (g0 : cn % 4 = 0) (g1 : cn ≤ 100000) (g2 : 0 ≤ p1.toInt) (g3 : p1.toInt % 4 = 0) (g4 : p1.toInt ≤ 100000) (hpk : Pok cn (fp 3) cd) (hkc : kc ≠ 0) (hcol : ColOk cn cd (fp 3) col) (hchkc : Chp cn col kc p0) : MetV l y_Prg_aim b_Prg_aim 6 D cs 0 0 (0) (0) [.ref hp, .int p0, .int p1] [wd_Prg cs hp rp (fun k => if k = 2 then of else none) fp (fun _ _ => 0) (fun _ _ => none), [((rp 1), .inl (cs 0, cn, .inl cd))]] (fun _ => True) (fun ps => ∃ (cd' : Nat → Int32), ps = [wd_Prg cs hp rp (fun k => if k = 2 then of else none) fp (fun _ _ => 0) (fun _ _ => none), [((rp 1), .inl (cs 0, cn, .inl cd'))]] ∧ Amc col kc cd cd' ∧ R_pe_aimc cn p0 p1 cd cd') := by
  refine px_enter (by decide) (Nat.le_of_ble_eq_true rfl) ?_
  intro p e s m below meth c A ls hAe S hr hlk hnm hA hT hX hw hl
  have hl : lv_has ls 6 [(0, .ref hp), (1, .int p0), (2, .int p1)] := hl
  have lp0 := Int32.le_toInt p0
  have up0 := Int32.toInt_lt p0
  have lp1 := Int32.le_toInt p1
  have up1 := Int32.toInt_lt p1
  have cst0 : (0 : Int32).toInt = 0 := rfl
  have cst1 : (1 : Int32).toInt = 1 := rfl
  have cst2048 : (2048 : Int32).toInt = 2048 := rfl
  have hcn : (nI cn).toInt = (cn : Int) := nI_toInt (by omega)
  have pz := hpk.1
  have J5 : ∀ (n_5 : Nat) (cd_5 : Nat → Int32) (x5_3 x5_4 : Int32) (H : Heap) (locs : List Loc) (ls : Array Slot), (AmS cn col kc cd cd_5 x5_3) → (Chp cn col kc x5_3) → (0 ≤ x5_4.toInt) → (x5_4.toInt ≤ 2048) → (K_pe_aimc_5 cn p0 p1 cd cd_5 x5_3 x5_4) → 2048 - x5_4.toInt < (n_5 : Int) → pw D A s.heap H locs [wd_Prg cs hp rp (fun k => if k = 2 then of else none) fp (fun _ _ => 0) (fun _ _ => none), [((rp 1), .inl (cs 0, cn, .inl cd_5))]] → lv_has ls 6 [(0, .ref hp), (1, .int p0), (2, .int p1), (3, .int x5_3), (4, .int x5_4)] → W p l e { frames := 0, cells := 0, slots := 0, locals := 0 } s m [.ref hp, .int p0, .int p1].toArray below meth c H locs 0 0 (MQ below (va_Qv (fun ps => ∃ (cd' : Nat → Int32), ps = [wd_Prg cs hp rp (fun k => if k = 2 then of else none) fp (fun _ _ => 0) (fun _ _ => none), [((rp 1), .inl (cs 0, cn, .inl cd'))]] ∧ Amc col kc cd cd' ∧ R_pe_aimc cn p0 p1 cd cd') (pc_B D (va_A ([wd_Prg cs hp rp (fun k => if k = 2 then of else none) fp (fun _ _ => 0) (fun _ _ => none), [((rp 1), .inl (cs 0, cn, .inl cd))]] : List va_W).flatten s.heap.size)) (va_A ([wd_Prg cs hp rp (fun k => if k = 2 then of else none) fp (fun _ _ => 0) (fun _ _ => none), [((rp 1), .inl (cs 0, cn, .inl cd))]] : List va_W).flatten s.heap.size)) [.ref hp, .int p0, .int p1].toArray s 0 0 A) (F0 m 5 ls []) := by
    intro  n_5
    induction n_5 with
    | zero =>
      intro cd_5 x5_3 x5_4 H locs ls k5_0 k5_1 k5_2 k5_3 k5_4 hm hw hl
      have lx5_3 := Int32.le_toInt x5_3
      have ux5_3 := Int32.toInt_lt x5_3
      have lx5_4 := Int32.le_toInt x5_4
      have ux5_4 := Int32.toInt_lt x5_4
      have hams := k5_0
      have hchkc := k5_1
      exact absurd hm (by omega)
    | succ n_5 ih5 =>
      intro cd_5 x5_3 x5_4 H locs ls k5_0 k5_1 k5_2 k5_3 k5_4 hm hw hl
      have lx5_3 := Int32.le_toInt x5_3
      have ux5_3 := Int32.toInt_lt x5_3
      have lx5_4 := Int32.le_toInt x5_4
      have ux5_4 := Int32.toInt_lt x5_4
      have hams := k5_0
      have hchkc := k5_1
      refine lv_iload S.x S.b d_Prg_aim_5 (lv_at hl 4 rfl) ?_
      refine lv_sipush (v := 2048) S.x S.b d_Prg_aim_7 (by decide) ?_
      refine lv_icmp_ge (tgt := 56) S.x S.b d_Prg_aim_10 (by decide) (fun c1 => ?_) (fun c1 => ?_)
      · have nc1 : (2048 : Int) ≤ x5_4.toInt := (i_le (x := 2048) (y := x5_4)).mp c1
        exact px_vret S hr hlk hAe hw (Nat.le_of_ble_eq_true rfl) (Nat.le_of_ble_eq_true rfl) (⟨cd_5, rfl, hams.1, (k5_4 _ 1 (Or.inr (Or.inl ⟨rfl, x5_3, x5_4, rfl, rfl, rfl, rfl, rfl, Or.inl ⟨nc1, rfl⟩⟩)))⟩) d_Prg_aim_56
      · have nc1 : ¬ (2048 : Int) ≤ x5_4.toInt := mt (i_le (x := 2048) (y := x5_4)).mpr c1
        refine lv_iload_n S.x S.b d_Prg_aim_13 rfl (lv_at hl 3 rfl) ?_
        have hcle := chp_le hchkc hkc hcol (by omega)
        refine lv_if_lt (tgt := 56) S.x S.b d_Prg_aim_14 (by decide) (fun c3 => ?_) (fun c3 => ?_)
        · have nc3 : x5_3.toInt < (0 : Int) := (i_lt (x := x5_3) (y := 0)).mp c3
          exact px_vret S hr hlk hAe hw (Nat.le_of_ble_eq_true rfl) (Nat.le_of_ble_eq_true rfl) (⟨cd_5, rfl, hams.1, (k5_4 _ 1 (Or.inr (Or.inl ⟨rfl, x5_3, x5_4, rfl, rfl, rfl, rfl, rfl, Or.inr ⟨nc1, Or.inl ⟨nc3, rfl⟩⟩⟩)))⟩) d_Prg_aim_56
        · have nc3 : ¬ x5_3.toInt < (0 : Int) := mt (i_lt (x := x5_3) (y := 0)).mpr c3
          refine lv_iload_n S.x S.b d_Prg_aim_17 rfl (lv_at hl 3 rfl) ?_
          refine lv_iconst (v := 1) S.x S.b d_Prg_aim_18 (by decide) ?_
          refine lv_iadd S.x S.b d_Prg_aim_19 ?_
          refine lv_topi (fun z5 ez5 => ?_)
          have tz5 : z5.toInt = (x5_3.toInt + (1 : Int) + 2147483648) % 4294967296 - 2147483648 := by rw [ez5]; exact i_add x5_3 1
          have lz5 := Int32.le_toInt z5
          have uz5 := Int32.toInt_lt z5
          try replace tz5 : z5.toInt = x5_3.toInt + (1 : Int) := by omega
          refine lv_aload_n S.x S.b d_Prg_aim_20 rfl (lv_at hl 0 rfl) ?_
          refine px_get S k_Prg hT hw 0 0 1 (v := .ref (rp 1)) rfl rfl rfl (by decide) m2_99 d_Prg_aim_21 ?_
          refine px_len S hT hw 1 0 0 rfl rfl rfl (v := (nI cn)) rfl d_Prg_aim_24 ?_
          refine lv_icmp_ge (tgt := 56) S.x S.b d_Prg_aim_25 (by decide) (fun c6 => ?_) (fun c6 => ?_)
          · have nc6 : (nI cn).toInt ≤ z5.toInt := (i_le (x := (nI cn)) (y := z5)).mp c6
            exact px_vret S hr hlk hAe hw (Nat.le_of_ble_eq_true rfl) (Nat.le_of_ble_eq_true rfl) (⟨cd_5, rfl, hams.1, (k5_4 _ 1 (Or.inr (Or.inl ⟨rfl, x5_3, x5_4, rfl, rfl, rfl, rfl, rfl, Or.inr ⟨nc1, Or.inr ⟨nc3, z5, ez5, Or.inl ⟨nc6, rfl⟩⟩⟩⟩)))⟩) d_Prg_aim_56
          · have nc6 : ¬ (nI cn).toInt ≤ z5.toInt := mt (i_le (x := (nI cn)) (y := z5)).mpr c6
            refine lv_aload_n S.x S.b d_Prg_aim_28 rfl (lv_at hl 0 rfl) ?_
            refine px_get S k_Prg hT hw 0 0 1 (v := .ref (rp 1)) rfl rfl rfl (by decide) m2_99 d_Prg_aim_29 ?_
            refine lv_iload_n S.x S.b d_Prg_aim_32 rfl (lv_at hl 3 rfl) ?_
            refine lv_iconst (v := 1) S.x S.b d_Prg_aim_33 (by decide) ?_
            refine lv_iadd S.x S.b d_Prg_aim_34 ?_
            refine lv_topi (fun z8 ez8 => ?_)
            have tz8 : z8.toInt = (x5_3.toInt + (1 : Int) + 2147483648) % 4294967296 - 2147483648 := by rw [ez8]; exact i_add x5_3 1
            have lz8 := Int32.le_toInt z8
            have uz8 := Int32.toInt_lt z8
            try replace tz8 : z8.toInt = x5_3.toInt + (1 : Int) := by omega
            refine px_iald S hT hw 1 0 (n := cn) (f := cd_5) rfl rfl (x := z8) (vp_in_iff.mpr (by constructor <;> omega)) d_Prg_aim_35 ?_
            refine lv_topi (fun z9 ez9 => ?_)
            have lz9 := Int32.le_toInt z9
            have uz9 := Int32.toInt_lt z9
            refine lv_istore (lv' := [(5, .int z9), (0, .ref hp), (1, .int p0), (2, .int p1), (3, .int x5_3), (4, .int x5_4)]) S.x S.b d_Prg_aim_36 hl (by decide) rfl (fun ls hl => ?_)
            refine lv_aload_n S.x S.b d_Prg_aim_38 rfl (lv_at hl 1 rfl) ?_
            refine px_get S k_Prg hT hw 0 0 1 (v := .ref (rp 1)) rfl rfl rfl (by decide) m2_99 d_Prg_aim_39 ?_
            refine lv_iload_n S.x S.b d_Prg_aim_42 rfl (lv_at hl 4 rfl) ?_
            refine lv_iconst (v := 1) S.x S.b d_Prg_aim_43 (by decide) ?_
            refine lv_iadd S.x S.b d_Prg_aim_44 ?_
            refine lv_topi (fun z10 ez10 => ?_)
            have tz10 : z10.toInt = (x5_3.toInt + (1 : Int) + 2147483648) % 4294967296 - 2147483648 := by rw [ez10]; exact i_add x5_3 1
            have lz10 := Int32.le_toInt z10
            have uz10 := Int32.toInt_lt z10
            try replace tz10 : z10.toInt = x5_3.toInt + (1 : Int) := by omega
            refine lv_iload_n S.x S.b d_Prg_aim_45 rfl (lv_at hl 3 rfl) ?_
            refine px_iast S hT hw 1 0 (n := cn) (f := cd_5) (x := z10) (y := p1) rfl rfl (vp_in_iff.mpr (by constructor <;> omega)) d_Prg_aim_46 (w' := [((rp 1), .inl (cs 0, cn, .inl (upd cd_5 z10.toNatClampNeg p1)))]) (ps' := [wd_Prg cs hp rp (fun k => if k = 2 then of else none) fp (fun _ _ => 0) (fun _ _ => none), [((rp 1), .inl (cs 0, cn, .inl (upd cd_5 z10.toNatClampNeg p1)))]]) rfl rfl (fun H locs hw => ?_)
            have hams := ams_step (z := (fp 3)) (t := p1) hkc hams hcol hchkc (by omega) (by omega) (show z10.toInt = x5_3.toInt + 1 from by first | exact oz_037caa6b79 tz10 | omega) ⟨by omega, by omega, by omega⟩ (show z9 = _ from by rw [ez10, ← ez8]; exact ez9)
            refine lv_iload S.x S.b d_Prg_aim_47 (lv_at hl 0 rfl) ?_
            refine lv_istore_n (lv' := [(3, .int z9), (5, .int z9), (0, .ref hp), (1, .int p0), (2, .int p1), (4, .int x5_4)]) S.x S.b d_Prg_aim_49 rfl hl (by decide) rfl (fun ls hl => ?_)
            obtain ⟨z11, ez11⟩ : ∃ y : Int32, y = x5_4 + 1 := ⟨_, rfl⟩
            have tz11 : z11.toInt = (x5_4.toInt + 1 + 2147483648) % 4294967296 - 2147483648 := by rw [ez11]; exact i_add x5_4 1
            have lz11 := Int32.le_toInt z11
            have uz11 := Int32.toInt_lt z11
            try replace tz11 : z11.toInt = x5_4.toInt + 1 := by omega
            refine lv_iinc (v := z11) (lv' := [(4, .int z11), (3, .int z9), (5, .int z9), (0, .ref hp), (1, .int p0), (2, .int p1)]) S.x S.b d_Prg_aim_50 hl (k := 5) rfl (by rw [ez11]; rfl) (by decide) rfl (fun ls hl => ?_)
            refine lv_goto (tgt := 5) S.x S.b d_Prg_aim_53 (by decide) ?_
            exact ih5 (upd cd_5 z10.toNatClampNeg p1) z9 z11 _ _ ls (show AmS cn col kc cd (upd cd_5 z10.toNatClampNeg p1) z9 from (by first | exact ams_0 hpk.2 | exact hams.1 | exact hams)) (show Chp cn col kc z9 from (by first | exact hchkc | exact hams.2 | assumption)) (show 0 ≤ z11.toInt from by first | exact oz_ae613611c0 tz11 k5_2 | omega) (show z11.toInt ≤ 2048 from by first | exact oz_09add060f8 tz11 nc1 | omega) (show K_pe_aimc_5 cn p0 p1 cd (upd cd_5 z10.toNatClampNeg p1) z9 z11 from (fun y_f0 k hE => k5_4 y_f0 (k + 1) (Or.inr (Or.inl ⟨rfl, x5_3, x5_4, rfl, rfl, rfl, rfl, rfl, Or.inr ⟨nc1, Or.inr ⟨nc3, z5, ez5, Or.inr ⟨nc6, z8, ez8, z9, ez9, z10, ez10, z11, ez11, hE⟩⟩⟩⟩)))) (show 2048 - z11.toInt < (n_5 : Int) from by first | exact oz_0c436a6a43 hm tz11 | omega) hw (lv_sub hl [3, 4, 5, 1, 0] rfl)
  refine lv_iload_n S.x S.b d_Prg_aim_0 rfl (lv_at hl 1 rfl) ?_
  refine lv_istore_n (lv' := [(3, .int p0), (0, .ref hp), (1, .int p0), (2, .int p1)]) S.x S.b d_Prg_aim_1 rfl hl (by decide) rfl (fun ls hl => ?_)
  refine lv_iconst (v := 0) S.x S.b d_Prg_aim_2 (by decide) ?_
  refine lv_istore (lv' := [(4, .int 0), (3, .int p0), (0, .ref hp), (1, .int p0), (2, .int p1)]) S.x S.b d_Prg_aim_3 hl (by decide) rfl (fun ls hl => ?_)
  exact J5 ((2048 - (0 : Int)).toNat + 1) cd p0 (0 : Int32) _ _ ls (show AmS cn col kc cd cd p0 from (by first | exact ams_0 hpk.2 | exact hams.1 | exact hams)) (show Chp cn col kc p0 from (by first | exact hchkc | exact hams.2 | assumption)) (show 0 ≤ (0 : Int) from by first | exact oz_5a341f00aa | omega) (show (0 : Int) ≤ 2048 from by first | exact oz_b3869020ab | omega) (show K_pe_aimc_5 cn p0 p1 cd cd p0 0 from (fun y_f0 k hE => Exists.intro (k + 1) (Or.inl ⟨rfl, hE⟩))) (show 2048 - (0 : Int) < ((((2048 - (0 : Int)).toNat + 1 : Nat) : Int) : Int) from by first | exact oz_natlt | omega) hw (lv_sub hl [2, 3, 4, 1, 0] rfl)
