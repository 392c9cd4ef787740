theorem oz_7a877e6add {a0 a1 a2 a3 : Int} (h0 : a0 ≤ a2) (h1 : a1 = a3 + 1) (h2 : a3 = a2) : a0 ≤ a1 := by omega
abbrev b_Mpg_checkEnum : ByteArray := prog_16_method_102_code
def y_Mpg_checkEnum : MethodName := ⟨"HomeSystemModel$Program", "checkEnum", "(I)V"⟩
theorem d_Mpg_checkEnum_0 : decode b_Mpg_checkEnum 0 = .ok (.iconst 0, 1) := by decide +kernel
theorem d_Mpg_checkEnum_1 : decode b_Mpg_checkEnum 1 = .ok (.istore_n 2, 1) := by decide +kernel
theorem d_Mpg_checkEnum_2 : decode b_Mpg_checkEnum 2 = .ok (.aload_n 0, 1) := by decide +kernel
theorem d_Mpg_checkEnum_3 : decode b_Mpg_checkEnum 3 = .ok (.getfield 216, 3) := by decide +kernel
theorem d_Mpg_checkEnum_6 : decode b_Mpg_checkEnum 6 = .ok (.iload_n 1, 1) := by decide +kernel
theorem d_Mpg_checkEnum_7 : decode b_Mpg_checkEnum 7 = .ok (.iaload, 1) := by decide +kernel
theorem d_Mpg_checkEnum_8 : decode b_Mpg_checkEnum 8 = .ok (.istore_n 3, 1) := by decide +kernel
theorem d_Mpg_checkEnum_9 : decode b_Mpg_checkEnum 9 = .ok (.iload_n 3, 1) := by decide +kernel
theorem d_Mpg_checkEnum_10 : decode b_Mpg_checkEnum 10 = .ok (.ifCond .lt 73, 3) := by decide +kernel
theorem d_Mpg_checkEnum_13 : decode b_Mpg_checkEnum 13 = .ok (.aload_n 0, 1) := by decide +kernel
theorem d_Mpg_checkEnum_14 : decode b_Mpg_checkEnum 14 = .ok (.aload_n 0, 1) := by decide +kernel
theorem d_Mpg_checkEnum_15 : decode b_Mpg_checkEnum 15 = .ok (.getfield 210, 3) := by decide +kernel
theorem d_Mpg_checkEnum_18 : decode b_Mpg_checkEnum 18 = .ok (.iload_n 3, 1) := by decide +kernel
theorem d_Mpg_checkEnum_19 : decode b_Mpg_checkEnum 19 = .ok (.iaload, 1) := by decide +kernel
theorem d_Mpg_checkEnum_20 : decode b_Mpg_checkEnum 20 = .ok (.invokevirtual 618, 3) := by decide +kernel
theorem d_Mpg_checkEnum_23 : decode b_Mpg_checkEnum 23 = .ok (.aload_n 0, 1) := by decide +kernel
theorem d_Mpg_checkEnum_24 : decode b_Mpg_checkEnum 24 = .ok (.getfield 216, 3) := by decide +kernel
theorem d_Mpg_checkEnum_27 : decode b_Mpg_checkEnum 27 = .ok (.iload_n 3, 1) := by decide +kernel
theorem d_Mpg_checkEnum_28 : decode b_Mpg_checkEnum 28 = .ok (.iaload, 1) := by decide +kernel
theorem d_Mpg_checkEnum_29 : decode b_Mpg_checkEnum 29 = .ok (.ifCond .lt 21, 3) := by decide +kernel
theorem d_Mpg_checkEnum_32 : decode b_Mpg_checkEnum 32 = .ok (.aload_n 0, 1) := by decide +kernel
theorem d_Mpg_checkEnum_33 : decode b_Mpg_checkEnum 33 = .ok (.aload_n 0, 1) := by decide +kernel
theorem d_Mpg_checkEnum_34 : decode b_Mpg_checkEnum 34 = .ok (.getfield 216, 3) := by decide +kernel
theorem d_Mpg_checkEnum_37 : decode b_Mpg_checkEnum 37 = .ok (.iload_n 3, 1) := by decide +kernel
theorem d_Mpg_checkEnum_38 : decode b_Mpg_checkEnum 38 = .ok (.iaload, 1) := by decide +kernel
theorem d_Mpg_checkEnum_39 : decode b_Mpg_checkEnum 39 = .ok (.invokevirtual 593, 3) := by decide +kernel
theorem d_Mpg_checkEnum_42 : decode b_Mpg_checkEnum 42 = .ok (.ifCond .eq 8, 3) := by decide +kernel
theorem d_Mpg_checkEnum_45 : decode b_Mpg_checkEnum 45 = .ok (.aload_n 0, 1) := by decide +kernel
theorem d_Mpg_checkEnum_46 : decode b_Mpg_checkEnum 46 = .ok (.getfield 612, 3) := by decide +kernel
theorem d_Mpg_checkEnum_49 : decode b_Mpg_checkEnum 49 = .ok (.istore_n 2, 1) := by decide +kernel
theorem d_Mpg_checkEnum_50 : decode b_Mpg_checkEnum 50 = .ok (.aload_n 0, 1) := by decide +kernel
theorem d_Mpg_checkEnum_51 : decode b_Mpg_checkEnum 51 = .ok (.getfield 219, 3) := by decide +kernel
theorem d_Mpg_checkEnum_54 : decode b_Mpg_checkEnum 54 = .ok (.iload_n 3, 1) := by decide +kernel
theorem d_Mpg_checkEnum_55 : decode b_Mpg_checkEnum 55 = .ok (.iload_n 2, 1) := by decide +kernel
theorem d_Mpg_checkEnum_56 : decode b_Mpg_checkEnum 56 = .ok (.iastore, 1) := by decide +kernel
theorem d_Mpg_checkEnum_57 : decode b_Mpg_checkEnum 57 = .ok (.aload_n 0, 1) := by decide +kernel
theorem d_Mpg_checkEnum_58 : decode b_Mpg_checkEnum 58 = .ok (.aload_n 0, 1) := by decide +kernel
theorem d_Mpg_checkEnum_59 : decode b_Mpg_checkEnum 59 = .ok (.getfield 210, 3) := by decide +kernel
theorem d_Mpg_checkEnum_62 : decode b_Mpg_checkEnum 62 = .ok (.iload_n 3, 1) := by decide +kernel
theorem d_Mpg_checkEnum_63 : decode b_Mpg_checkEnum 63 = .ok (.iaload, 1) := by decide +kernel
theorem d_Mpg_checkEnum_64 : decode b_Mpg_checkEnum 64 = .ok (.iconst 4, 1) := by decide +kernel
theorem d_Mpg_checkEnum_65 : decode b_Mpg_checkEnum 65 = .ok (.iload_n 2, 1) := by decide +kernel
theorem d_Mpg_checkEnum_66 : decode b_Mpg_checkEnum 66 = .ok (.iconst (-1), 1) := by decide +kernel
theorem d_Mpg_checkEnum_67 : decode b_Mpg_checkEnum 67 = .ok (.invokevirtual 633, 3) := by decide +kernel
theorem d_Mpg_checkEnum_70 : decode b_Mpg_checkEnum 70 = .ok (.iinc 2 1, 3) := by decide +kernel
theorem d_Mpg_checkEnum_73 : decode b_Mpg_checkEnum 73 = .ok (.aload_n 0, 1) := by decide +kernel
theorem d_Mpg_checkEnum_74 : decode b_Mpg_checkEnum 74 = .ok (.getfield 228, 3) := by decide +kernel
theorem d_Mpg_checkEnum_77 : decode b_Mpg_checkEnum 77 = .ok (.iload_n 3, 1) := by decide +kernel
theorem d_Mpg_checkEnum_78 : decode b_Mpg_checkEnum 78 = .ok (.iaload, 1) := by decide +kernel
theorem d_Mpg_checkEnum_79 : decode b_Mpg_checkEnum 79 = .ok (.istore_n 3, 1) := by decide +kernel
theorem d_Mpg_checkEnum_80 : decode b_Mpg_checkEnum 80 = .ok (.goto (-71), 3) := by decide +kernel
theorem d_Mpg_checkEnum_83 : decode b_Mpg_checkEnum 83 = .ok (.return_, 1) := by decide +kernel
theorem q_Mpg_checkEnum : px_y y_Mpg_checkEnum 1 := by unfold px_y; decide +kernel
set_option maxHeartbeats 4000000 in
set_option maxRecDepth 100000 in
theorem c_mp_checkEnum (l : Launch) (D : va_G) (cs : Nat → ClassId) (ma0 : Nat → Nat → Int32) (ys : Int) (nf : Int) (d : Nat) (lo : Int) (hi : Int) (w : Int) (h : Nat) (r : Nat → Nat) (g : Nat → Nat → Option Nat) (tf : Nat → Int32) (ta : Nat → Nat → Int32) (pf : Nat → Int32) (na : Nat → Nat → Int32) (wa : Nat → Nat → Int32) (ef : Nat → Int32) (ea : Nat → Nat → Int32) (xf : Nat → Int32) (xa : Nat → Nat → Int32) (ma : Nat → Nat → Int32) (cf : Nat → Int32) (ca : Nat → Nat → Int32) (p0 : Int32)  (g0 : 0 ≤ lo) (g1 : hi ≤ (pf 13).toInt) (g2 : (pf 13).toInt ≤ 2100) (g3 : (tf 6).toInt ≤ 2049) (g4 : 0 ≤ (cf 33).toInt) (g5 : 0 ≤ w) (g6 : 6 * (cf 33).toInt + w ≤ 6540) (g7 : 0 ≤ (cf 48).toInt) (g8 : 6 * (cf 48).toInt ≤ 6540) (g9 : (cf 38).toInt = nf) (g10 : 0 ≤ nf) (g11 : 0 ≤ (cf 37).toInt) (g12 : 0 ≤ (cf 46).toInt) (g13 : (cf 46).toInt ≤ 1) (g14 : 0 ≤ (cf 47).toInt) (g15 : (cf 47).toInt ≤ 1) (g16 : 0 ≤ p0.toInt) (g17 : lo ≤ p0.toInt) (g18 : p0.toInt < hi) (htk : TkI tf ta) (hfs : FsI (tf 6).toInt (pf 13).toInt na) (hwr : WrV cf (tf 6).toInt) (hkt : KnT (tf 6).toInt ca (cf 33).toInt) (hft : FnT (tf 6).toInt na ca (cf 38).toInt) (hks : KnS ca (cf 33).toInt (cf 48).toInt ys) (hfp : FnP na ca nf) (han : Ann na ma0 ma) (hro : RvO ta (tf 6).toInt na ma0 d (p0.toInt + 1) hi w (na 17 p0.toNatClampNeg)) : MetV l y_Mpg_checkEnum b_Mpg_checkEnum 4 D cs (4 * d + 20) (200 * d + 720) (0) (0) [.ref h, .int p0] [wdP cs h r g tf ta pf na ma wa cf ca ef ea xf xa] (oX (fun A U H => (oP A g U H)) [wdP cs h r g tf ta pf na ma wa cf ca ef ea xf xa]) (fun ps => ∃ (ma' : Nat → Nat → Int32) (cf' : Nat → Int32) (ca' : Nat → Nat → Int32), (ps = [wdP cs h r g tf ta pf na ma' wa cf' ca' ef ea xf xa]) ∧ ((cf' 30).toInt = 0 → (cf 30).toInt = 0) ∧ (WrV cf' (tf 6).toInt) ∧ ((cf' 37).toInt = (cf 37).toInt) ∧ ((cf' 38).toInt = (cf 38).toInt) ∧ ((cf' 43).toInt = (cf 43).toInt) ∧ ((cf' 44).toInt = (cf 44).toInt) ∧ ((cf' 45).toInt = (cf 45).toInt) ∧ ((cf' 46).toInt = (cf 46).toInt) ∧ ((cf' 47).toInt = (cf 47).toInt) ∧ ((cf' 41).toInt = (cf 41).toInt) ∧ ((cf' 55).toInt = (cf 55).toInt) ∧ ((cf' 48).toInt = (cf 48).toInt) ∧ ((cf' 42).toInt = (cf 42).toInt) ∧ ((cf' 54).toInt = (cf 54).toInt) ∧ ((cf' 59).toInt = (cf 59).toInt) ∧ ((cf 33).toInt ≤ (cf' 33).toInt) ∧ (6 * (cf' 33).toInt ≤ 6 * (cf 33).toInt + (w)) ∧ (KnT (tf 6).toInt ca' (cf' 33).toInt) ∧ (KnS ca' (cf' 33).toInt (cf' 48).toInt ys) ∧ (CaG ca ca' (cf 33).toInt (cf 48).toInt) ∧ (Ann na ma0 ma') ∧ (FrC lo hi ma ma')) := by
  refine px_enter (by decide) (Nat.le_of_ble_eq_true rfl) ?_
  intro p e s m below meth c A ls hAe S hr hlk hnm hA hT hX hw hl
  replace hl : lv_has ls 4 [(0, .ref h), (1, .int p0)] := hl
  have lp0 := Int32.le_toInt p0
  have up0 := Int32.toInt_lt p0
  have cstm1 : ((-1) : Int32).toInt = (-1) := rfl
  have cst0 : (0 : Int32).toInt = 0 := rfl
  have cst4 : (4 : Int32).toInt = 4 := rfl
  have hX : (fun A U H => (oP A g U H)) A s s.heap := by rw [hAe]; exact hX
  have hP := hX
  have hZ := hP.1
  have hF0 := hP.2.1
  have hfc : FrC lo hi ma ma := FrC.rf
  have hwr0 := hwr.1
  have hk11 := hkt.1
  have hf11 := hft.1
  have hcg : CaG ca ca (cf 33).toInt (cf 48).toInt := CaG.rf
  have hsr : SyR ca 5000 (cf 48).toInt 0 1 := syr_0 (by omega)
  have J9 : ∀ (n_9 : Nat) (ma_9 : Nat → Nat → Int32) (cf_9 : Nat → Int32) (ca_9 : Nat → Nat → Int32) (mid_9 : Int) (wr_9 : Int) (x9_2 x9_3 : Int32) (H : Heap) (locs : List Loc) (ls : Array Slot), ((cf_9 30).toInt = 0 → (cf 30).toInt = 0) → (WrV cf_9 (tf 6).toInt) → ((cf_9 37).toInt = (cf 37).toInt) → ((cf_9 38).toInt = (cf 38).toInt) → ((cf_9 43).toInt = (cf 43).toInt) → ((cf_9 44).toInt = (cf 44).toInt) → ((cf_9 45).toInt = (cf 45).toInt) → ((cf_9 46).toInt = (cf 46).toInt) → ((cf_9 47).toInt = (cf 47).toInt) → ((cf_9 41).toInt = (cf 41).toInt) → ((cf_9 55).toInt = (cf 55).toInt) → ((cf_9 48).toInt = (cf 48).toInt) → ((cf_9 42).toInt = (cf 42).toInt) → ((cf_9 54).toInt = (cf 54).toInt) → ((cf_9 59).toInt = (cf 59).toInt) → ((cf 33).toInt ≤ (cf_9 33).toInt) → (6 * (cf_9 33).toInt ≤ 6 * (cf 33).toInt + (w - wr_9)) → (KnT (tf 6).toInt ca_9 (cf_9 33).toInt) → (KnS ca_9 (cf_9 33).toInt (cf_9 48).toInt ys) → (CaG ca ca_9 (cf 33).toInt (cf 48).toInt) → (Ann na ma0 ma_9) → (FrC lo hi ma ma_9) → (p0.toInt + 1 ≤ mid_9) → (mid_9 ≤ hi) → (0 ≤ wr_9) → (wr_9 ≤ w) → (RvO ta (tf 6).toInt na ma0 d mid_9 hi wr_9 x9_3) → hi - mid_9 < (n_9 : Int) → pw D A s.heap H locs [wdP cs h r g tf ta pf na ma_9 wa cf_9 ca_9 ef ea xf xa] → lv_has ls 4 [(0, .ref h), (1, .int p0), (2, .int x9_2), (3, .int x9_3)] → W p l e { frames := (4 * d + 20), cells := 0, slots := 0, locals := (200 * d + 720) } s m [.ref h, .int p0].toArray below meth c H locs 0 0 (MQ below (va_Qv (fun ps => ∃ (ma' : Nat → Nat → Int32) (cf' : Nat → Int32) (ca' : Nat → Nat → Int32), (ps = [wdP cs h r g tf ta pf na ma' wa cf' ca' ef ea xf xa]) ∧ ((cf' 30).toInt = 0 → (cf 30).toInt = 0) ∧ (WrV cf' (tf 6).toInt) ∧ ((cf' 37).toInt = (cf 37).toInt) ∧ ((cf' 38).toInt = (cf 38).toInt) ∧ ((cf' 43).toInt = (cf 43).toInt) ∧ ((cf' 44).toInt = (cf 44).toInt) ∧ ((cf' 45).toInt = (cf 45).toInt) ∧ ((cf' 46).toInt = (cf 46).toInt) ∧ ((cf' 47).toInt = (cf 47).toInt) ∧ ((cf' 41).toInt = (cf 41).toInt) ∧ ((cf' 55).toInt = (cf 55).toInt) ∧ ((cf' 48).toInt = (cf 48).toInt) ∧ ((cf' 42).toInt = (cf 42).toInt) ∧ ((cf' 54).toInt = (cf 54).toInt) ∧ ((cf' 59).toInt = (cf 59).toInt) ∧ ((cf 33).toInt ≤ (cf' 33).toInt) ∧ (6 * (cf' 33).toInt ≤ 6 * (cf 33).toInt + (w)) ∧ (KnT (tf 6).toInt ca' (cf' 33).toInt) ∧ (KnS ca' (cf' 33).toInt (cf' 48).toInt ys) ∧ (CaG ca ca' (cf 33).toInt (cf 48).toInt) ∧ (Ann na ma0 ma') ∧ (FrC lo hi ma ma')) (pc_B D (va_A ([wdP cs h r g tf ta pf na ma wa cf ca ef ea xf xa] : List va_W).flatten s.heap.size)) (va_A ([wdP cs h r g tf ta pf na ma wa cf ca ef ea xf xa] : List va_W).flatten s.heap.size)) [.ref h, .int p0].toArray s 0 0 A) (F0 m 9 ls []) := by
    intro  n_9
    induction n_9 with
    | zero =>
      intro ma_9 cf_9 ca_9 mid_9 wr_9 x9_2 x9_3 H locs ls k9_0 k9_1 k9_2 k9_3 k9_4 k9_5 k9_6 k9_7 k9_8 k9_9 k9_10 k9_11 k9_12 k9_13 k9_14 k9_15 k9_16 k9_17 k9_18 k9_19 k9_20 k9_21 k9_22 k9_23 k9_24 k9_25 k9_26 hm hw hl
      have lx9_2 := Int32.le_toInt x9_2
      have ux9_2 := Int32.toInt_lt x9_2
      have lx9_3 := Int32.le_toInt x9_3
      have ux9_3 := Int32.toInt_lt x9_3
      have hwr := k9_1
      have hw0_k9_1 := hwr.1
      have hkt := k9_17
      have hk11_k9_17 := hkt.1
      have hks := k9_18
      have hcg := k9_19
      have hft := hft.cg k9_19
      have hfp := hfp.cg k9_19
      have hsr := hsr.cg k9_19 (Int.le_refl _)
      have han := k9_20
      have hfc := k9_21
      have hro := k9_26
      exact absurd hm (by omega)
    | succ n_9 ih9 =>
      intro ma_9 cf_9 ca_9 mid_9 wr_9 x9_2 x9_3 H locs ls k9_0 k9_1 k9_2 k9_3 k9_4 k9_5 k9_6 k9_7 k9_8 k9_9 k9_10 k9_11 k9_12 k9_13 k9_14 k9_15 k9_16 k9_17 k9_18 k9_19 k9_20 k9_21 k9_22 k9_23 k9_24 k9_25 k9_26 hm hw hl
      have lx9_2 := Int32.le_toInt x9_2
      have ux9_2 := Int32.toInt_lt x9_2
      have lx9_3 := Int32.le_toInt x9_3
      have ux9_3 := Int32.toInt_lt x9_3
      have hwr := k9_1
      have hw0_k9_1 := hwr.1
      have hkt := k9_17
      have hk11_k9_17 := hkt.1
      have hks := k9_18
      have hcg := k9_19
      have hft := hft.cg k9_19
      have hfp := hfp.cg k9_19
      have hsr := hsr.cg k9_19 (Int.le_refl _)
      have han := k9_20
      have hfc := k9_21
      have hro := k9_26
      refine lv_iload_n S.x S.b d_Mpg_checkEnum_9 rfl (lv_at hl 3 rfl) ?_
      refine lv_if_lt (tgt := 83) S.x S.b d_Mpg_checkEnum_10 (by decide) (fun c1 => ?_) (fun c1 => ?_)
      · have nc1 : x9_3.toInt < (0 : Int) := (i_lt (x := x9_3) (y := 0)).mp c1
        exact px_vret S hr hlk hAe hw (Nat.le_of_ble_eq_true rfl) (Nat.le_of_ble_eq_true rfl) (⟨ma_9, cf_9, ca_9, rfl, (show (cf_9 30).toInt = 0 → (cf 30).toInt = 0 from by first | exact k9_0 | omega), (show WrV cf_9 (tf 6).toInt from hwr), (show (cf_9 37).toInt = (cf 37).toInt from by first | exact k9_2 | omega), (show (cf_9 38).toInt = (cf 38).toInt from by first | exact k9_3 | omega), (show (cf_9 43).toInt = (cf 43).toInt from by first | exact k9_4 | omega), (show (cf_9 44).toInt = (cf 44).toInt from by first | exact k9_5 | omega), (show (cf_9 45).toInt = (cf 45).toInt from by first | exact k9_6 | omega), (show (cf_9 46).toInt = (cf 46).toInt from by first | exact k9_7 | omega), (show (cf_9 47).toInt = (cf 47).toInt from by first | exact k9_8 | omega), (show (cf_9 41).toInt = (cf 41).toInt from by first | exact k9_9 | omega), (show (cf_9 55).toInt = (cf 55).toInt from by first | exact k9_10 | omega), (show (cf_9 48).toInt = (cf 48).toInt from by first | exact k9_11 | omega), (show (cf_9 42).toInt = (cf 42).toInt from by first | exact k9_12 | omega), (show (cf_9 54).toInt = (cf 54).toInt from by first | exact k9_13 | omega), (show (cf_9 59).toInt = (cf 59).toInt from by first | exact k9_14 | omega), (show (cf 33).toInt ≤ (cf_9 33).toInt from by first | exact k9_15 | omega), (show 6 * (cf_9 33).toInt ≤ 6 * (cf 33).toInt + (w) from by first | exact oz_45803030ed k9_16 k9_24 | omega), (show KnT (tf 6).toInt ca_9 (cf_9 33).toInt from (KnT.eq hkt (by omega))), (show KnS ca_9 (cf_9 33).toInt (cf_9 48).toInt ys from (KnS.eq hks (by omega) (by omega))), (show CaG ca ca_9 (cf 33).toInt (cf 48).toInt from (hcg.le (by omega) (by omega))), (show Ann na ma0 ma_9 from han), (show FrC lo hi ma ma_9 from hfc)⟩) d_Mpg_checkEnum_83
      · have nc1 : ¬ x9_3.toInt < (0 : Int) := mt (i_lt (x := x9_3) (y := 0)).mpr c1
        refine lv_aload_n S.x S.b d_Mpg_checkEnum_13 rfl (lv_at hl 0 rfl) ?_
        obtain ⟨md2, wv3, hm1_md2, hm2_md2, hm3_md2, hco_x9_3, hx3_md2, hro2⟩ := RvE.step hro (by omega); have hwp2 := RvE.wp hro2; have hck_md2 := hco_x9_3.2.1; have hcw_md2 := hco_x9_3.2.2.2.1; have hcx := hco_x9_3.2.2.2.2
        refine lv_aload_n S.x S.b d_Mpg_checkEnum_14 rfl (lv_at hl 0 rfl) ?_
        refine px_get S k_Mpg hT hw 0 0 15 (v := .ref (r 15)) rfl rfl rfl (by decide) m9_239 d_Mpg_checkEnum_15 ?_
        refine lv_iload_n S.x S.b d_Mpg_checkEnum_18 rfl (lv_at hl 3 rfl) ?_
        refine px_iald S hT hw 0 11 (n := 2100) (f := (na 15)) rfl gp_15 (x := x9_3) (vp_in_iff.mpr (by constructor <;> omega)) d_Mpg_checkEnum_19 ?_
        refine lv_topi (fun z4 ez4 => ?_)
        have lz4 := Int32.le_toInt z4
        have uz4 := Int32.toInt_lt z4
        have rz4 := CoV.tok hco_x9_3 ez4
        refine px_callv (pr := []) (px_runV (As := [.int z4]) (rest := []) S (c_mp_checkNew l D cs h r g tf ta pf na ma_9 wa ca_9 ef ea xf xa cf_9 z4  (show 0 ≤ z4.toInt from by first | exact rz4.1 | omega) (show z4.toInt < (tf 6).toInt from by first | with_reducible rfl | with_reducible assumption | omega) (show (tf 6).toInt ≤ 2049 from by first | exact g3 | omega) (show 0 ≤ (cf_9 33).toInt from by first | exact oz_16d7fa9f32 k9_15 g4 | omega) (show 0 ≤ (cf_9 37).toInt from by first | exact oz_f3ebed1ad0 k9_2 g11 | omega) (show 0 ≤ (cf_9 38).toInt from by first | exact oz_e2fef14871 k9_3 g9 g10 | omega) htk hwr (KnT.eq hkt (by omega)) (FnT.eq hft (by omega)) _) hT (pr := []) (pcs := [wdP cs h r g tf ta pf na ma_9 wa cf_9 ca_9 ef ea xf xa]) hw (oX_call (P := (fun A U H => (oP A g U H))) (pr := []) oG_P hw hA hP) (px_recv hT hw 0 0 rfl rfl rfl) m12_177 m12_174 m12_176 ms_11_13 m1_21 q_Mpg_checkNew ⟨show 8 + 1 ≤ (4 * d + 20) from by first | with_reducible rfl | with_reducible assumption | omega, show 8 + (3 + 11) + 330 ≤ (200 * d + 720) from by first | with_reducible rfl | with_reducible assumption | omega⟩ hl.1 rfl (Nat.le_of_ble_eq_true rfl) d_Mpg_checkEnum_20 ⟨Nat.le_of_ble_eq_true rfl, Nat.le_of_ble_eq_true rfl⟩) hw hA (fun p7 H locs hp7 hw => ?_)
        obtain ⟨cf6, rfl, e9, e10, e11, e12, e13, e14, e15, e16, e17, e18, e19, e20, e21, e22, e23, e24, e25, e26⟩ := hp7
        replace e9 : KpE cf_9 cf6 := e9
        have hkz_e9 := e9.2
        replace e10 : WrV cf6 (tf 6).toInt := e10
        have hwr := e10
        have hw0_e10 := hwr.1
        replace e11 : (cf6 33).toInt = (cf_9 33).toInt := e11
        replace e12 : (cf6 38).toInt = (cf_9 38).toInt := e12
        replace e13 : (cf6 48).toInt = (cf_9 48).toInt := e13
        replace e14 : (cf6 46).toInt = (cf_9 46).toInt := e14
        replace e15 : (cf6 47).toInt = (cf_9 47).toInt := e15
        replace e16 : (cf6 57).toInt = (cf_9 57).toInt := e16
        replace e17 : (cf6 37).toInt = (cf_9 37).toInt := e17
        replace e18 : (cf6 42).toInt = (cf_9 42).toInt := e18
        replace e19 : (cf6 43).toInt = (cf_9 43).toInt := e19
        replace e20 : (cf6 44).toInt = (cf_9 44).toInt := e20
        replace e21 : (cf6 45).toInt = (cf_9 45).toInt := e21
        replace e22 : (cf6 54).toInt = (cf_9 54).toInt := e22
        replace e23 : (cf6 55).toInt = (cf_9 55).toInt := e23
        replace e24 : (cf6 58).toInt = (cf_9 58).toInt := e24
        replace e25 : (cf6 59).toInt = (cf_9 59).toInt := e25
        replace e26 : (cf6 41).toInt = (cf_9 41).toInt := e26
        replace hw : pw D A s.heap H locs [wdP cs h r g tf ta pf na ma_9 wa cf6 ca_9 ef ea xf xa] := hw
        refine lv_aload_n S.x S.b d_Mpg_checkEnum_23 rfl (lv_at hl 0 rfl) ?_
        refine px_get S k_Mpg hT hw 0 0 17 (v := .ref (r 17)) rfl rfl rfl (by decide) m10_1 d_Mpg_checkEnum_24 ?_
        refine lv_iload_n S.x S.b d_Mpg_checkEnum_27 rfl (lv_at hl 3 rfl) ?_
        refine px_iald S hT hw 0 13 (n := 2100) (f := (na 17)) rfl gp_17 (x := x9_3) (vp_in_iff.mpr (by constructor <;> omega)) d_Mpg_checkEnum_28 ?_
        refine lv_topi (fun z27 ez27 => ?_)
        have lz27 := Int32.le_toInt z27
        have uz27 := Int32.toInt_lt z27
        have rz27 : z27.toInt = (na 17 x9_3.toNatClampNeg).toInt := by rw [ez27]
        refine lv_if_lt (tgt := 50) S.x S.b d_Mpg_checkEnum_29 (by decide) (fun c28 => ?_) (fun c28 => ?_)
        · have nc28 : z27.toInt < (0 : Int) := (i_lt (x := z27) (y := 0)).mp c28
          refine lv_aload_n S.x S.b d_Mpg_checkEnum_50 rfl (lv_at hl 0 rfl) ?_
          refine px_get S k_Mpg hT hw 0 0 18 (v := .ref (r 18)) rfl rfl rfl (by decide) m10_3 d_Mpg_checkEnum_51 ?_
          refine lv_iload_n S.x S.b d_Mpg_checkEnum_54 rfl (lv_at hl 3 rfl) ?_
          refine lv_iload_n S.x S.b d_Mpg_checkEnum_55 rfl (lv_at hl 2 rfl) ?_
          refine px_iast S hT hw 0 14 (n := 2100) (f := (ma_9 18)) (x := x9_3) (y := x9_2) rfl gp_18 (vp_in_iff.mpr (by constructor <;> omega)) d_Mpg_checkEnum_56 (w' := wdP cs h r g tf ta pf na (va_up ma_9 18 (upd (ma_9 18) x9_3.toNatClampNeg x9_2)) wa cf6 ca_9 ef ea xf xa) (ps' := [wdP cs h r g tf ta pf na (va_up ma_9 18 (upd (ma_9 18) x9_3.toNatClampNeg x9_2)) wa cf6 ca_9 ef ea xf xa]) sp_18 rfl (fun H locs hw => ?_)
          obtain ⟨ma29, hu_ma29⟩ : ∃ y : Nat → Nat → Int32, y = va_up ma_9 18 (upd (ma_9 18) x9_3.toNatClampNeg x9_2) := ⟨_, rfl⟩
          have hw : pw D A s.heap _ _ [wdP cs h r g tf ta pf na ma29 wa cf6 ca_9 ef ea xf xa] := (by rw [hu_ma29]; exact hw)
          have hf1_ma29 : FrC x9_3.toInt (x9_3.toInt + 1) ma_9 ma29 := (by rw [hu_ma29]; exact FrC.w FrC.rf (by omega) (by omega) (by omega))
          have han : Ann na ma0 ma29 := (by rw [hu_ma29]; exact Ann.w18 han (by omega))
          have hfc := hfc.tr hf1_ma29 (by omega) (by omega)
          have hv_18_x9_3 : ma29 18 x9_3.toNatClampNeg = x9_2 := (by rw [hu_ma29, va_up_s, pk_us])
          have hnhv_18_x9_3 : (ma29 18 x9_3.toNatClampNeg).toInt = x9_2.toInt := (by rw [hv_18_x9_3])
          refine lv_aload_n S.x S.b d_Mpg_checkEnum_57 rfl (lv_at hl 0 rfl) ?_
          refine lv_aload_n S.x S.b d_Mpg_checkEnum_58 rfl (lv_at hl 0 rfl) ?_
          refine px_get S k_Mpg hT hw 0 0 15 (v := .ref (r 15)) rfl rfl rfl (by decide) m9_239 d_Mpg_checkEnum_59 ?_
          refine lv_iload_n S.x S.b d_Mpg_checkEnum_62 rfl (lv_at hl 3 rfl) ?_
          refine px_iald S hT hw 0 11 (n := 2100) (f := (na 15)) rfl gp_15 (x := x9_3) (vp_in_iff.mpr (by constructor <;> omega)) d_Mpg_checkEnum_63 ?_
          refine lv_topi (fun z30 ez30 => ?_)
          have lz30 := Int32.le_toInt z30
          have uz30 := Int32.toInt_lt z30
          have rz30 := CoV.tok hco_x9_3 ez30
          refine lv_iconst (v := 4) S.x S.b d_Mpg_checkEnum_64 (by decide) ?_
          refine lv_iload_n S.x S.b d_Mpg_checkEnum_65 rfl (lv_at hl 2 rfl) ?_
          refine lv_iconst (v := (-1)) S.x S.b d_Mpg_checkEnum_66 (by decide) ?_
          refine px_callv (pr := []) (px_runV (As := [.int z30, .int 4, .int x9_2, .int (-1)]) (rest := []) S (c_mp_know l D cs h r g tf ta pf na ma29 wa ef ea xf xa cf6 ca_9 z30 4 x9_2 (-1)  (show 0 ≤ (cf6 33).toInt from by first | exact oz_9921a0d148 e11 k9_15 g4 | omega) (show (cf6 33).toInt < 1100 from by first | exact oz_b0b3c00e64 e11 k9_16 g6 k9_24 | omega) htk _) hT (pr := []) (pcs := [wdP cs h r g tf ta pf na ma29 wa cf6 ca_9 ef ea xf xa]) hw px_X.tt (px_recv hT hw 0 0 rfl rfl rfl) m12_193 m12_190 m12_192 ms_12_1 m1_21 q_Mpg_know ⟨show 0 + 1 ≤ (4 * d + 20) from by first | with_reducible rfl | with_reducible assumption | omega, show 8 + (5 + 11) + 0 ≤ (200 * d + 720) from by first | with_reducible rfl | with_reducible assumption | omega⟩ hl.1 rfl (Nat.le_of_ble_eq_true rfl) d_Mpg_checkEnum_67 ⟨Nat.le_of_ble_eq_true rfl, Nat.le_of_ble_eq_true rfl⟩) hw hA (fun p35 H locs hp35 hw => ?_)
          obtain ⟨cf33, ca34, rfl, e37, e38, e39, e40, e41, e42, e43, e44, e45, e46, e47, e48, e49, e50, e51, e52, e53, e54, e55⟩ := hp35
          replace e37 : (cf33 33).toInt = (cf6 33).toInt + 1 := e37
          replace e38 : (cf33 30).toInt = (cf6 30).toInt := e38
          replace e39 : (cf33 31).toInt = (cf6 31).toInt := e39
          replace e40 : (cf33 37).toInt = (cf6 37).toInt := e40
          replace e41 : (cf33 38).toInt = (cf6 38).toInt := e41
          replace e42 : (cf33 41).toInt = (cf6 41).toInt := e42
          replace e43 : (cf33 42).toInt = (cf6 42).toInt := e43
          replace e44 : (cf33 43).toInt = (cf6 43).toInt := e44
          replace e45 : (cf33 44).toInt = (cf6 44).toInt := e45
          replace e46 : (cf33 45).toInt = (cf6 45).toInt := e46
          replace e47 : (cf33 46).toInt = (cf6 46).toInt := e47
          replace e48 : (cf33 47).toInt = (cf6 47).toInt := e48
          replace e49 : (cf33 48).toInt = (cf6 48).toInt := e49
          replace e50 : (cf33 54).toInt = (cf6 54).toInt := e50
          replace e51 : (cf33 55).toInt = (cf6 55).toInt := e51
          replace e52 : (cf33 57).toInt = (cf6 57).toInt := e52
          replace e53 : (cf33 58).toInt = (cf6 58).toInt := e53
          replace e54 : (cf33 59).toInt = (cf6 59).toInt := e54
          replace e55 : KwU ca_9 ca34 (cf6 33) z30 (4 : Int32) x9_2 (-1 : Int32) := e55
          have hcw_e55 : CaG ca_9 ca34 (cf6 33).toInt (cf33 48).toInt := cag_kw e55 (by omega) (by omega)
          have hkt : KnT (tf 6).toInt ca34 (cf33 33).toInt := KnT.eq (KnT.kw (KnT.eq hkt (n' := (cf6 33).toInt) (by omega)) e55 rfl (by omega) (by omega) ⟨by omega, by omega⟩) (by omega)
          have hks : KnS ca34 (cf33 33).toInt (cf33 48).toInt ys := KnS.eq (KnS.kw (KnS.eq hks (n' := (cf6 33).toInt) (by omega) rfl) e55 rfl (by omega) (Or.inr (Or.inr ⟨by omega, by decide⟩))) (by omega) (by omega)
          have hcg := hcg.tr hcw_e55 (by omega) (by omega)
          have hft := hft.cg hcw_e55
          have hfp := hfp.cg hcw_e55
          have hsr := hsr.cg hcw_e55 (by omega)
          have hwr : WrV cf33 (tf 6).toInt := WrV.eq hwr (by omega) (by omega)
          replace hw : pw D A s.heap H locs [wdP cs h r g tf ta pf na ma29 wa cf33 ca34 ef ea xf xa] := hw
          obtain ⟨z56, ez56⟩ : ∃ y : Int32, y = x9_2 + 1 := ⟨_, rfl⟩
          have tz56 : z56.toInt = (x9_2.toInt + 1 + 2147483648) % 4294967296 - 2147483648 := by rw [ez56]; exact i_add x9_2 1
          have lz56 := Int32.le_toInt z56
          have uz56 := Int32.toInt_lt z56
          try replace tz56 : z56.toInt = x9_2.toInt + 1 := by omega
          refine lv_iinc (v := z56) (lv' := [(2, .int z56), (0, .ref h), (1, .int p0), (3, .int x9_3)]) S.x S.b d_Mpg_checkEnum_70 hl (k := 2) rfl (by rw [ez56]; rfl) (by decide) rfl (fun ls hl => ?_)
          refine lv_aload_n S.x S.b d_Mpg_checkEnum_73 rfl (lv_at hl 1 rfl) ?_
          refine px_get S k_Mpg hT hw 0 0 21 (v := .ref (r 21)) rfl rfl rfl (by decide) m10_7 d_Mpg_checkEnum_74 ?_
          refine lv_iload_n S.x S.b d_Mpg_checkEnum_77 rfl (lv_at hl 3 rfl) ?_
          refine px_iald S hT hw 0 17 (n := 2100) (f := (na 21)) rfl gp_21 (x := x9_3) (vp_in_iff.mpr (by constructor <;> omega)) d_Mpg_checkEnum_78 ?_
          refine lv_topi (fun z57 ez57 => ?_)
          have lz57 := Int32.le_toInt z57
          have uz57 := Int32.toInt_lt z57
          refine lv_istore_n (lv' := [(3, .int z57), (2, .int z56), (0, .ref h), (1, .int p0)]) S.x S.b d_Mpg_checkEnum_79 rfl hl (by decide) rfl (fun ls hl => ?_)
          refine lv_goto (tgt := 9) S.x S.b d_Mpg_checkEnum_80 (by decide) ?_
          exact ih9 ma29 cf33 ca34 md2 (wr_9 - wv3) z56 z57 _ _ ls (show (cf33 30).toInt = 0 → (cf 30).toInt = 0 from by first | with_reducible rfl | with_reducible assumption | omega) (show WrV cf33 (tf 6).toInt from hwr) (show (cf33 37).toInt = (cf 37).toInt from by first | exact oz_e13fc83238 k9_2 e40 e17 | omega) (show (cf33 38).toInt = (cf 38).toInt from by first | exact oz_e13fc83238 k9_3 e41 e12 | omega) (show (cf33 43).toInt = (cf 43).toInt from by first | exact oz_e13fc83238 k9_4 e44 e19 | omega) (show (cf33 44).toInt = (cf 44).toInt from by first | exact oz_e13fc83238 k9_5 e45 e20 | omega) (show (cf33 45).toInt = (cf 45).toInt from by first | exact oz_e13fc83238 k9_6 e46 e21 | omega) (show (cf33 46).toInt = (cf 46).toInt from by first | exact oz_e13fc83238 k9_7 e47 e14 | omega) (show (cf33 47).toInt = (cf 47).toInt from by first | exact oz_e13fc83238 k9_8 e48 e15 | omega) (show (cf33 41).toInt = (cf 41).toInt from by first | exact oz_e13fc83238 k9_9 e42 e26 | omega) (show (cf33 55).toInt = (cf 55).toInt from by first | exact oz_e13fc83238 k9_10 e51 e23 | omega) (show (cf33 48).toInt = (cf 48).toInt from by first | exact oz_e13fc83238 k9_11 e49 e13 | omega) (show (cf33 42).toInt = (cf 42).toInt from by first | exact oz_e13fc83238 k9_12 e43 e18 | omega) (show (cf33 54).toInt = (cf 54).toInt from by first | exact oz_e13fc83238 k9_13 e50 e22 | omega) (show (cf33 59).toInt = (cf 59).toInt from by first | exact oz_e13fc83238 k9_14 e54 e25 | omega) (show (cf 33).toInt ≤ (cf33 33).toInt from by first | exact oz_7a877e6add k9_15 e37 e11 | omega) (show 6 * (cf33 33).toInt ≤ 6 * (cf 33).toInt + (w - (wr_9 - wv3)) from by first | with_reducible rfl | with_reducible assumption | omega) (show KnT (tf 6).toInt ca34 (cf33 33).toInt from (KnT.eq hkt (by omega))) (show KnS ca34 (cf33 33).toInt (cf33 48).toInt ys from (KnS.eq hks (by omega) (by omega))) (show CaG ca ca34 (cf 33).toInt (cf 48).toInt from (hcg.le (by omega) (by omega))) (show Ann na ma0 ma29 from han) (show FrC lo hi ma ma29 from hfc) (show p0.toInt + 1 ≤ md2 from by first | with_reducible rfl | with_reducible assumption | omega) (show md2 ≤ hi from by first | exact hm2_md2 | omega) (show 0 ≤ (wr_9 - wv3) from by first | with_reducible rfl | with_reducible assumption | omega) (show (wr_9 - wv3) ≤ w from by first | with_reducible rfl | with_reducible assumption | omega) (show RvO ta (tf 6).toInt na ma0 d md2 hi (wr_9 - wv3) z57 from (by rw [ez57]; exact hro2)) (show hi - md2 < (n_9 : Int) from by first | with_reducible rfl | with_reducible assumption | omega) hw (lv_sub hl [2, 3, 1, 0] rfl)
        · have nc28 : ¬ z27.toInt < (0 : Int) := mt (i_lt (x := z27) (y := 0)).mpr c28
          refine lv_aload_n S.x S.b d_Mpg_checkEnum_32 rfl (lv_at hl 0 rfl) ?_
          refine lv_aload_n S.x S.b d_Mpg_checkEnum_33 rfl (lv_at hl 0 rfl) ?_
          refine px_get S k_Mpg hT hw 0 0 17 (v := .ref (r 17)) rfl rfl rfl (by decide) m10_1 d_Mpg_checkEnum_34 ?_
          refine lv_iload_n S.x S.b d_Mpg_checkEnum_37 rfl (lv_at hl 3 rfl) ?_
          refine px_iald S hT hw 0 13 (n := 2100) (f := (na 17)) rfl gp_17 (x := x9_3) (vp_in_iff.mpr (by constructor <;> omega)) d_Mpg_checkEnum_38 ?_
          refine lv_topi (fun z58 ez58 => ?_)
          have lz58 := Int32.le_toInt z58
          have uz58 := Int32.toInt_lt z58
          have rz58 : z58.toInt = (na 17 x9_3.toNatClampNeg).toInt := by rw [ez58]
          have hev_z58 : ErV ta (tf 6).toInt na ma0 d (x9_3.toInt + 1) md2 (wv3 - 6) z58 := (by rw [ez58]; exact OcV.get hcx (by rw [← ez58]; omega)); obtain ⟨hec_z58, h20_z58, hw_z58⟩ := hev_z58.ec; have hrg_z58 := EcV.rng hec_z58
          refine px_calli (pr := []) (px_runV (As := [.int z58]) (rest := []) S (c_mp_checkConstant l D cs ma0 ys (cf6 48).toInt nf (cf6 33).toInt d (x9_3.toInt + 1) md2 h r g tf ta pf na wa ca_9 ef ea xf xa ma_9 cf6 z58  (show 0 ≤ (x9_3.toInt + 1) from by first | exact oz_0073e084eb nc1 | omega) (show md2 ≤ (pf 13).toInt from by first | exact oz_bbb5b20c1a g1 hm2_md2 | omega) (show (pf 13).toInt ≤ 2100 from by first | exact g2 | omega) (show (tf 6).toInt ≤ 2049 from by first | exact g3 | omega) (show (cf6 33).toInt = (cf6 33).toInt from rfl) (show 0 ≤ (cf6 33).toInt from by first | exact oz_9921a0d148 e11 k9_15 g4 | omega) (show (cf6 48).toInt = (cf6 48).toInt from rfl) (show (cf6 38).toInt = nf from by first | exact oz_e13fc83238 g9 e12 k9_3 | omega) (show 0 ≤ nf from by first | exact g10 | omega) (show 0 ≤ (cf6 46).toInt from by first | exact oz_e2fef14871 e14 k9_7 g12 | omega) (show (cf6 46).toInt ≤ 1 from by first | exact oz_916d756328 e14 k9_7 g13 | omega) (show 0 ≤ (cf6 47).toInt from by first | exact oz_e2fef14871 e15 k9_8 g14 | omega) (show (cf6 47).toInt ≤ 1 from by first | exact oz_916d756328 e15 k9_8 g15 | omega) htk (FsI.le (N' := (pf 13).toInt) hfs (by omega)) hwr (KnT.eq hkt (by omega)) (FnT.eq hft (by omega)) (KnS.eq hks (by omega) (by omega)) hfp han hec_z58 (by first | assumption | omega) _) hT (pr := []) (pcs := [wdP cs h r g tf ta pf na ma_9 wa cf6 ca_9 ef ea xf xa]) hw (oX_call (P := (fun A U H => (oP A g U H))) (pr := []) oG_P hw hA hP) (px_recv hT hw 0 0 rfl rfl rfl) m12_237 m12_234 m12_236 ms_12_12 m1_21 q_Mpg_checkConstant ⟨show (4 * d + 18) + 1 ≤ (4 * d + 20) from by first | with_reducible rfl | with_reducible assumption | omega, show 8 + (5 + 11) + (200 * d + 640) ≤ (200 * d + 720) from by first | with_reducible rfl | with_reducible assumption | omega⟩ hl.1 rfl (Nat.le_of_ble_eq_true rfl) d_Mpg_checkEnum_39 ⟨Nat.le_of_ble_eq_true rfl, Nat.le_of_ble_eq_true rfl⟩) hw hA (fun v64 p63 H locs hp63 hw => ?_)
          obtain ⟨ma61, cf62, rfl, e65, e66, e67, e68, e69, e70, e71, e72, e73, e74, e75⟩ := hp63
          replace e65 : KpE cf6 cf62 := e65
          have hkz_e65 := e65.2
          have hkk37_e65 : (cf62 37).toInt = (cf6 37).toInt := (by rw [e65.1 37 (by decide) (by decide) (by decide) (by decide) (by decide)] <;> rfl)
          have hkk43_e65 : (cf62 43).toInt = (cf6 43).toInt := (by rw [e65.1 43 (by decide) (by decide) (by decide) (by decide) (by decide)] <;> rfl)
          have hkk44_e65 : (cf62 44).toInt = (cf6 44).toInt := (by rw [e65.1 44 (by decide) (by decide) (by decide) (by decide) (by decide)] <;> rfl)
          have hkk45_e65 : (cf62 45).toInt = (cf6 45).toInt := (by rw [e65.1 45 (by decide) (by decide) (by decide) (by decide) (by decide)] <;> rfl)
          have hkk41_e65 : (cf62 41).toInt = (cf6 41).toInt := (by rw [e65.1 41 (by decide) (by decide) (by decide) (by decide) (by decide)] <;> rfl)
          have hkk55_e65 : (cf62 55).toInt = (cf6 55).toInt := (by rw [e65.1 55 (by decide) (by decide) (by decide) (by decide) (by decide)] <;> rfl)
          have hkk59_e65 : (cf62 59).toInt = (cf6 59).toInt := (by rw [e65.1 59 (by decide) (by decide) (by decide) (by decide) (by decide)] <;> rfl)
          have hkk42_e65 : (cf62 42).toInt = (cf6 42).toInt := (by rw [e65.1 42 (by decide) (by decide) (by decide) (by decide) (by decide)] <;> rfl)
          have hkk54_e65 : (cf62 54).toInt = (cf6 54).toInt := (by rw [e65.1 54 (by decide) (by decide) (by decide) (by decide) (by decide)] <;> rfl)
          have hkk58_e65 : (cf62 58).toInt = (cf6 58).toInt := (by rw [e65.1 58 (by decide) (by decide) (by decide) (by decide) (by decide)] <;> rfl)
          replace e66 : WrV cf62 (tf 6).toInt := e66
          have hwr := e66
          have hw0_e66 := hwr.1
          replace e67 : (cf62 33).toInt = (cf6 33).toInt := e67
          replace e68 : (cf62 38).toInt = (cf6 38).toInt := e68
          replace e69 : (cf62 48).toInt = (cf6 48).toInt := e69
          replace e70 : (cf62 46).toInt = (cf6 46).toInt := e70
          replace e71 : (cf62 47).toInt = (cf6 47).toInt := e71
          replace e72 : Ann na ma0 ma61 := e72
          have han := e72
          replace e73 : FrC (x9_3.toInt + 1) md2 ma_9 ma61 := e73
          have hfc := hfc.tr e73 (by omega) (by omega)
          have e74 := z_rng e74
          replace e75 : v64.toInt = 0 → 1 ≤ (cf62 30).toInt := e75
          replace hw : pw D A s.heap H locs [wdP cs h r g tf ta pf na ma61 wa cf62 ca_9 ef ea xf xa] := hw
          have lv64 := Int32.le_toInt v64
          have uv64 := Int32.toInt_lt v64
          refine lv_if_eq (tgt := 50) S.x S.b d_Mpg_checkEnum_42 (by decide) (fun c76 => ?_) (fun c76 => ?_)
          · have nc76 : v64.toInt = (0 : Int) := (i_eq (x := v64) (y := 0)).mp c76
            refine lv_aload_n S.x S.b d_Mpg_checkEnum_50 rfl (lv_at hl 0 rfl) ?_
            refine px_get S k_Mpg hT hw 0 0 18 (v := .ref (r 18)) rfl rfl rfl (by decide) m10_3 d_Mpg_checkEnum_51 ?_
            refine lv_iload_n S.x S.b d_Mpg_checkEnum_54 rfl (lv_at hl 3 rfl) ?_
            refine lv_iload_n S.x S.b d_Mpg_checkEnum_55 rfl (lv_at hl 2 rfl) ?_
            refine px_iast S hT hw 0 14 (n := 2100) (f := (ma61 18)) (x := x9_3) (y := x9_2) rfl gp_18 (vp_in_iff.mpr (by constructor <;> omega)) d_Mpg_checkEnum_56 (w' := wdP cs h r g tf ta pf na (va_up ma61 18 (upd (ma61 18) x9_3.toNatClampNeg x9_2)) wa cf62 ca_9 ef ea xf xa) (ps' := [wdP cs h r g tf ta pf na (va_up ma61 18 (upd (ma61 18) x9_3.toNatClampNeg x9_2)) wa cf62 ca_9 ef ea xf xa]) sp_18 rfl (fun H locs hw => ?_)
            obtain ⟨ma77, hu_ma77⟩ : ∃ y : Nat → Nat → Int32, y = va_up ma61 18 (upd (ma61 18) x9_3.toNatClampNeg x9_2) := ⟨_, rfl⟩
            have hw : pw D A s.heap _ _ [wdP cs h r g tf ta pf na ma77 wa cf62 ca_9 ef ea xf xa] := (by rw [hu_ma77]; exact hw)
            have hf1_ma77 : FrC x9_3.toInt (x9_3.toInt + 1) ma61 ma77 := (by rw [hu_ma77]; exact FrC.w FrC.rf (by omega) (by omega) (by omega))
            have han : Ann na ma0 ma77 := (by rw [hu_ma77]; exact Ann.w18 han (by omega))
            have hfc := hfc.tr hf1_ma77 (by omega) (by omega)
            have hv_18_x9_3 : ma77 18 x9_3.toNatClampNeg = x9_2 := (by rw [hu_ma77, va_up_s, pk_us])
            have hnhv_18_x9_3 : (ma77 18 x9_3.toNatClampNeg).toInt = x9_2.toInt := (by rw [hv_18_x9_3])
            refine lv_aload_n S.x S.b d_Mpg_checkEnum_57 rfl (lv_at hl 0 rfl) ?_
            refine lv_aload_n S.x S.b d_Mpg_checkEnum_58 rfl (lv_at hl 0 rfl) ?_
            refine px_get S k_Mpg hT hw 0 0 15 (v := .ref (r 15)) rfl rfl rfl (by decide) m9_239 d_Mpg_checkEnum_59 ?_
            refine lv_iload_n S.x S.b d_Mpg_checkEnum_62 rfl (lv_at hl 3 rfl) ?_
            refine px_iald S hT hw 0 11 (n := 2100) (f := (na 15)) rfl gp_15 (x := x9_3) (vp_in_iff.mpr (by constructor <;> omega)) d_Mpg_checkEnum_63 ?_
            refine lv_topi (fun z78 ez78 => ?_)
            have lz78 := Int32.le_toInt z78
            have uz78 := Int32.toInt_lt z78
            have rz78 := CoV.tok hco_x9_3 ez78
            refine lv_iconst (v := 4) S.x S.b d_Mpg_checkEnum_64 (by decide) ?_
            refine lv_iload_n S.x S.b d_Mpg_checkEnum_65 rfl (lv_at hl 2 rfl) ?_
            refine lv_iconst (v := (-1)) S.x S.b d_Mpg_checkEnum_66 (by decide) ?_
            refine px_callv (pr := []) (px_runV (As := [.int z78, .int 4, .int x9_2, .int (-1)]) (rest := []) S (c_mp_know l D cs h r g tf ta pf na ma77 wa ef ea xf xa cf62 ca_9 z78 4 x9_2 (-1)  (show 0 ≤ (cf62 33).toInt from by first | exact oz_9bcc310e9c e67 e11 k9_15 g4 | omega) (show (cf62 33).toInt < 1100 from by first | exact oz_75b62dc8f3 e67 e11 k9_16 g6 k9_24 | omega) htk _) hT (pr := []) (pcs := [wdP cs h r g tf ta pf na ma77 wa cf62 ca_9 ef ea xf xa]) hw px_X.tt (px_recv hT hw 0 0 rfl rfl rfl) m12_193 m12_190 m12_192 ms_12_1 m1_21 q_Mpg_know ⟨show 0 + 1 ≤ (4 * d + 20) from by first | with_reducible rfl | with_reducible assumption | omega, show 8 + (5 + 11) + 0 ≤ (200 * d + 720) from by first | with_reducible rfl | with_reducible assumption | omega⟩ hl.1 rfl (Nat.le_of_ble_eq_true rfl) d_Mpg_checkEnum_67 ⟨Nat.le_of_ble_eq_true rfl, Nat.le_of_ble_eq_true rfl⟩) hw hA (fun p83 H locs hp83 hw => ?_)
            obtain ⟨cf81, ca82, rfl, e85, e86, e87, e88, e89, e90, e91, e92, e93, e94, e95, e96, e97, e98, e99, e100, e101, e102, e103⟩ := hp83
            replace e85 : (cf81 33).toInt = (cf62 33).toInt + 1 := e85
            replace e86 : (cf81 30).toInt = (cf62 30).toInt := e86
            replace e87 : (cf81 31).toInt = (cf62 31).toInt := e87
            replace e88 : (cf81 37).toInt = (cf62 37).toInt := e88
            replace e89 : (cf81 38).toInt = (cf62 38).toInt := e89
            replace e90 : (cf81 41).toInt = (cf62 41).toInt := e90
            replace e91 : (cf81 42).toInt = (cf62 42).toInt := e91
            replace e92 : (cf81 43).toInt = (cf62 43).toInt := e92
            replace e93 : (cf81 44).toInt = (cf62 44).toInt := e93
            replace e94 : (cf81 45).toInt = (cf62 45).toInt := e94
            replace e95 : (cf81 46).toInt = (cf62 46).toInt := e95
            replace e96 : (cf81 47).toInt = (cf62 47).toInt := e96
            replace e97 : (cf81 48).toInt = (cf62 48).toInt := e97
            replace e98 : (cf81 54).toInt = (cf62 54).toInt := e98
            replace e99 : (cf81 55).toInt = (cf62 55).toInt := e99
            replace e100 : (cf81 57).toInt = (cf62 57).toInt := e100
            replace e101 : (cf81 58).toInt = (cf62 58).toInt := e101
            replace e102 : (cf81 59).toInt = (cf62 59).toInt := e102
            replace e103 : KwU ca_9 ca82 (cf62 33) z78 (4 : Int32) x9_2 (-1 : Int32) := e103
            have hcw_e103 : CaG ca_9 ca82 (cf62 33).toInt (cf81 48).toInt := cag_kw e103 (by omega) (by omega)
            have hkt : KnT (tf 6).toInt ca82 (cf81 33).toInt := KnT.eq (KnT.kw (KnT.eq hkt (n' := (cf62 33).toInt) (by omega)) e103 rfl (by omega) (by omega) ⟨by omega, by omega⟩) (by omega)
            have hks : KnS ca82 (cf81 33).toInt (cf81 48).toInt ys := KnS.eq (KnS.kw (KnS.eq hks (n' := (cf62 33).toInt) (by omega) rfl) e103 rfl (by omega) (Or.inr (Or.inr ⟨by omega, by decide⟩))) (by omega) (by omega)
            have hcg := hcg.tr hcw_e103 (by omega) (by omega)
            have hft := hft.cg hcw_e103
            have hfp := hfp.cg hcw_e103
            have hsr := hsr.cg hcw_e103 (by omega)
            have hwr : WrV cf81 (tf 6).toInt := WrV.eq hwr (by omega) (by omega)
            replace hw : pw D A s.heap H locs [wdP cs h r g tf ta pf na ma77 wa cf81 ca82 ef ea xf xa] := hw
            obtain ⟨z104, ez104⟩ : ∃ y : Int32, y = x9_2 + 1 := ⟨_, rfl⟩
            have tz104 : z104.toInt = (x9_2.toInt + 1 + 2147483648) % 4294967296 - 2147483648 := by rw [ez104]; exact i_add x9_2 1
            have lz104 := Int32.le_toInt z104
            have uz104 := Int32.toInt_lt z104
            try replace tz104 : z104.toInt = x9_2.toInt + 1 := by omega
            refine lv_iinc (v := z104) (lv' := [(2, .int z104), (0, .ref h), (1, .int p0), (3, .int x9_3)]) S.x S.b d_Mpg_checkEnum_70 hl (k := 2) rfl (by rw [ez104]; rfl) (by decide) rfl (fun ls hl => ?_)
            refine lv_aload_n S.x S.b d_Mpg_checkEnum_73 rfl (lv_at hl 1 rfl) ?_
            refine px_get S k_Mpg hT hw 0 0 21 (v := .ref (r 21)) rfl rfl rfl (by decide) m10_7 d_Mpg_checkEnum_74 ?_
            refine lv_iload_n S.x S.b d_Mpg_checkEnum_77 rfl (lv_at hl 3 rfl) ?_
            refine px_iald S hT hw 0 17 (n := 2100) (f := (na 21)) rfl gp_21 (x := x9_3) (vp_in_iff.mpr (by constructor <;> omega)) d_Mpg_checkEnum_78 ?_
            refine lv_topi (fun z105 ez105 => ?_)
            have lz105 := Int32.le_toInt z105
            have uz105 := Int32.toInt_lt z105
            refine lv_istore_n (lv' := [(3, .int z105), (2, .int z104), (0, .ref h), (1, .int p0)]) S.x S.b d_Mpg_checkEnum_79 rfl hl (by decide) rfl (fun ls hl => ?_)
            refine lv_goto (tgt := 9) S.x S.b d_Mpg_checkEnum_80 (by decide) ?_
            exact ih9 ma77 cf81 ca82 md2 (wr_9 - wv3) z104 z105 _ _ ls (show (cf81 30).toInt = 0 → (cf 30).toInt = 0 from by first | with_reducible rfl | with_reducible assumption | omega) (show WrV cf81 (tf 6).toInt from hwr) (show (cf81 37).toInt = (cf 37).toInt from by first | exact oz_ff3084e3c1 k9_2 e88 e17 hkk37_e65 | omega) (show (cf81 38).toInt = (cf 38).toInt from by first | exact oz_ff3084e3c1 k9_3 e89 e12 e68 | omega) (show (cf81 43).toInt = (cf 43).toInt from by first | exact oz_ff3084e3c1 k9_4 e92 e19 hkk43_e65 | omega) (show (cf81 44).toInt = (cf 44).toInt from by first | exact oz_ff3084e3c1 k9_5 e93 e20 hkk44_e65 | omega) (show (cf81 45).toInt = (cf 45).toInt from by first | exact oz_ff3084e3c1 k9_6 e94 e21 hkk45_e65 | omega) (show (cf81 46).toInt = (cf 46).toInt from by first | exact oz_ff3084e3c1 k9_7 e95 e14 e70 | omega) (show (cf81 47).toInt = (cf 47).toInt from by first | exact oz_ff3084e3c1 k9_8 e96 e15 e71 | omega) (show (cf81 41).toInt = (cf 41).toInt from by first | exact oz_ff3084e3c1 k9_9 e90 e26 hkk41_e65 | omega) (show (cf81 55).toInt = (cf 55).toInt from by first | exact oz_ff3084e3c1 k9_10 e99 e23 hkk55_e65 | omega) (show (cf81 48).toInt = (cf 48).toInt from by first | exact oz_ff3084e3c1 k9_11 e97 e13 e69 | omega) (show (cf81 42).toInt = (cf 42).toInt from by first | exact oz_ff3084e3c1 k9_12 e91 e18 hkk42_e65 | omega) (show (cf81 54).toInt = (cf 54).toInt from by first | exact oz_ff3084e3c1 k9_13 e98 e22 hkk54_e65 | omega) (show (cf81 59).toInt = (cf 59).toInt from by first | exact oz_ff3084e3c1 k9_14 e102 e25 hkk59_e65 | omega) (show (cf 33).toInt ≤ (cf81 33).toInt from by first | exact oz_6e66b3a32a k9_15 e85 e11 e67 | omega) (show 6 * (cf81 33).toInt ≤ 6 * (cf 33).toInt + (w - (wr_9 - wv3)) from by first | with_reducible rfl | with_reducible assumption | omega) (show KnT (tf 6).toInt ca82 (cf81 33).toInt from (KnT.eq hkt (by omega))) (show KnS ca82 (cf81 33).toInt (cf81 48).toInt ys from (KnS.eq hks (by omega) (by omega))) (show CaG ca ca82 (cf 33).toInt (cf 48).toInt from (hcg.le (by omega) (by omega))) (show Ann na ma0 ma77 from han) (show FrC lo hi ma ma77 from hfc) (show p0.toInt + 1 ≤ md2 from by first | with_reducible rfl | with_reducible assumption | omega) (show md2 ≤ hi from by first | exact hm2_md2 | omega) (show 0 ≤ (wr_9 - wv3) from by first | with_reducible rfl | with_reducible assumption | omega) (show (wr_9 - wv3) ≤ w from by first | with_reducible rfl | with_reducible assumption | omega) (show RvO ta (tf 6).toInt na ma0 d md2 hi (wr_9 - wv3) z105 from (by rw [ez105]; exact hro2)) (show hi - md2 < (n_9 : Int) from by first | with_reducible rfl | with_reducible assumption | omega) hw (lv_sub hl [2, 3, 1, 0] rfl)
          · have nc76 : ¬ v64.toInt = (0 : Int) := mt (i_eq (x := v64) (y := 0)).mpr c76
            refine lv_aload_n S.x S.b d_Mpg_checkEnum_45 rfl (lv_at hl 0 rfl) ?_
            refine px_get S k_Mpg hT hw 0 0 57 (v := .int (cf62 57)) rfl rfl rfl (by decide) m10_54 d_Mpg_checkEnum_46 ?_
            refine lv_istore_n (lv' := [(2, .int (cf62 57)), (0, .ref h), (1, .int p0), (3, .int x9_3)]) S.x S.b d_Mpg_checkEnum_49 rfl hl (by decide) rfl (fun ls hl => ?_)
            refine lv_aload_n S.x S.b d_Mpg_checkEnum_50 rfl (lv_at hl 1 rfl) ?_
            refine px_get S k_Mpg hT hw 0 0 18 (v := .ref (r 18)) rfl rfl rfl (by decide) m10_3 d_Mpg_checkEnum_51 ?_
            refine lv_iload_n S.x S.b d_Mpg_checkEnum_54 rfl (lv_at hl 3 rfl) ?_
            refine lv_iload_n S.x S.b d_Mpg_checkEnum_55 rfl (lv_at hl 0 rfl) ?_
            refine px_iast S hT hw 0 14 (n := 2100) (f := (ma61 18)) (x := x9_3) (y := (cf62 57)) rfl gp_18 (vp_in_iff.mpr (by constructor <;> omega)) d_Mpg_checkEnum_56 (w' := wdP cs h r g tf ta pf na (va_up ma61 18 (upd (ma61 18) x9_3.toNatClampNeg (cf62 57))) wa cf62 ca_9 ef ea xf xa) (ps' := [wdP cs h r g tf ta pf na (va_up ma61 18 (upd (ma61 18) x9_3.toNatClampNeg (cf62 57))) wa cf62 ca_9 ef ea xf xa]) sp_18 rfl (fun H locs hw => ?_)
            obtain ⟨ma106, hu_ma106⟩ : ∃ y : Nat → Nat → Int32, y = va_up ma61 18 (upd (ma61 18) x9_3.toNatClampNeg (cf62 57)) := ⟨_, rfl⟩
            have hw : pw D A s.heap _ _ [wdP cs h r g tf ta pf na ma106 wa cf62 ca_9 ef ea xf xa] := (by rw [hu_ma106]; exact hw)
            have hf1_ma106 : FrC x9_3.toInt (x9_3.toInt + 1) ma61 ma106 := (by rw [hu_ma106]; exact FrC.w FrC.rf (by omega) (by omega) (by omega))
            have han : Ann na ma0 ma106 := (by rw [hu_ma106]; exact Ann.w18 han (by omega))
            have hfc := hfc.tr hf1_ma106 (by omega) (by omega)
            have hv_18_x9_3 : ma106 18 x9_3.toNatClampNeg = (cf62 57) := (by rw [hu_ma106, va_up_s, pk_us])
            have hnhv_18_x9_3 : (ma106 18 x9_3.toNatClampNeg).toInt = (cf62 57).toInt := (by rw [hv_18_x9_3])
            refine lv_aload_n S.x S.b d_Mpg_checkEnum_57 rfl (lv_at hl 1 rfl) ?_
            refine lv_aload_n S.x S.b d_Mpg_checkEnum_58 rfl (lv_at hl 1 rfl) ?_
            refine px_get S k_Mpg hT hw 0 0 15 (v := .ref (r 15)) rfl rfl rfl (by decide) m9_239 d_Mpg_checkEnum_59 ?_
            refine lv_iload_n S.x S.b d_Mpg_checkEnum_62 rfl (lv_at hl 3 rfl) ?_
            refine px_iald S hT hw 0 11 (n := 2100) (f := (na 15)) rfl gp_15 (x := x9_3) (vp_in_iff.mpr (by constructor <;> omega)) d_Mpg_checkEnum_63 ?_
            refine lv_topi (fun z107 ez107 => ?_)
            have lz107 := Int32.le_toInt z107
            have uz107 := Int32.toInt_lt z107
            have rz107 := CoV.tok hco_x9_3 ez107
            refine lv_iconst (v := 4) S.x S.b d_Mpg_checkEnum_64 (by decide) ?_
            refine lv_iload_n S.x S.b d_Mpg_checkEnum_65 rfl (lv_at hl 0 rfl) ?_
            refine lv_iconst (v := (-1)) S.x S.b d_Mpg_checkEnum_66 (by decide) ?_
            refine px_callv (pr := []) (px_runV (As := [.int z107, .int 4, .int (cf62 57), .int (-1)]) (rest := []) S (c_mp_know l D cs h r g tf ta pf na ma106 wa ef ea xf xa cf62 ca_9 z107 4 (cf62 57) (-1)  (show 0 ≤ (cf62 33).toInt from by first | exact oz_9bcc310e9c e67 e11 k9_15 g4 | omega) (show (cf62 33).toInt < 1100 from by first | exact oz_75b62dc8f3 e67 e11 k9_16 g6 k9_24 | omega) htk _) hT (pr := []) (pcs := [wdP cs h r g tf ta pf na ma106 wa cf62 ca_9 ef ea xf xa]) hw px_X.tt (px_recv hT hw 0 0 rfl rfl rfl) m12_193 m12_190 m12_192 ms_12_1 m1_21 q_Mpg_know ⟨show 0 + 1 ≤ (4 * d + 20) from by first | with_reducible rfl | with_reducible assumption | omega, show 8 + (5 + 11) + 0 ≤ (200 * d + 720) from by first | with_reducible rfl | with_reducible assumption | omega⟩ hl.1 rfl (Nat.le_of_ble_eq_true rfl) d_Mpg_checkEnum_67 ⟨Nat.le_of_ble_eq_true rfl, Nat.le_of_ble_eq_true rfl⟩) hw hA (fun p112 H locs hp112 hw => ?_)
            obtain ⟨cf110, ca111, rfl, e114, e115, e116, e117, e118, e119, e120, e121, e122, e123, e124, e125, e126, e127, e128, e129, e130, e131, e132⟩ := hp112
            replace e114 : (cf110 33).toInt = (cf62 33).toInt + 1 := e114
            replace e115 : (cf110 30).toInt = (cf62 30).toInt := e115
            replace e116 : (cf110 31).toInt = (cf62 31).toInt := e116
            replace e117 : (cf110 37).toInt = (cf62 37).toInt := e117
            replace e118 : (cf110 38).toInt = (cf62 38).toInt := e118
            replace e119 : (cf110 41).toInt = (cf62 41).toInt := e119
            replace e120 : (cf110 42).toInt = (cf62 42).toInt := e120
            replace e121 : (cf110 43).toInt = (cf62 43).toInt := e121
            replace e122 : (cf110 44).toInt = (cf62 44).toInt := e122
            replace e123 : (cf110 45).toInt = (cf62 45).toInt := e123
            replace e124 : (cf110 46).toInt = (cf62 46).toInt := e124
            replace e125 : (cf110 47).toInt = (cf62 47).toInt := e125
            replace e126 : (cf110 48).toInt = (cf62 48).toInt := e126
            replace e127 : (cf110 54).toInt = (cf62 54).toInt := e127
            replace e128 : (cf110 55).toInt = (cf62 55).toInt := e128
            replace e129 : (cf110 57).toInt = (cf62 57).toInt := e129
            replace e130 : (cf110 58).toInt = (cf62 58).toInt := e130
            replace e131 : (cf110 59).toInt = (cf62 59).toInt := e131
            replace e132 : KwU ca_9 ca111 (cf62 33) z107 (4 : Int32) (cf62 57) (-1 : Int32) := e132
            have hcw_e132 : CaG ca_9 ca111 (cf62 33).toInt (cf110 48).toInt := cag_kw e132 (by omega) (by omega)
            have hkt : KnT (tf 6).toInt ca111 (cf110 33).toInt := KnT.eq (KnT.kw (KnT.eq hkt (n' := (cf62 33).toInt) (by omega)) e132 rfl (by omega) (by omega) ⟨by omega, by omega⟩) (by omega)
            have hks : KnS ca111 (cf110 33).toInt (cf110 48).toInt ys := KnS.eq (KnS.kw (KnS.eq hks (n' := (cf62 33).toInt) (by omega) rfl) e132 rfl (by omega) (Or.inr (Or.inr ⟨by omega, by decide⟩))) (by omega) (by omega)
            have hcg := hcg.tr hcw_e132 (by omega) (by omega)
            have hft := hft.cg hcw_e132
            have hfp := hfp.cg hcw_e132
            have hsr := hsr.cg hcw_e132 (by omega)
            have hwr : WrV cf110 (tf 6).toInt := WrV.eq hwr (by omega) (by omega)
            replace hw : pw D A s.heap H locs [wdP cs h r g tf ta pf na ma106 wa cf110 ca111 ef ea xf xa] := hw
            obtain ⟨z133, ez133⟩ : ∃ y : Int32, y = (cf62 57) + 1 := ⟨_, rfl⟩
            have tz133 : z133.toInt = ((cf62 57).toInt + 1 + 2147483648) % 4294967296 - 2147483648 := by rw [ez133]; exact i_add (cf62 57) 1
            have lz133 := Int32.le_toInt z133
            have uz133 := Int32.toInt_lt z133
            try replace tz133 : z133.toInt = (cf62 57).toInt + 1 := by omega
            refine lv_iinc (v := z133) (lv' := [(2, .int z133), (0, .ref h), (1, .int p0), (3, .int x9_3)]) S.x S.b d_Mpg_checkEnum_70 hl (k := 0) rfl (by rw [ez133]; rfl) (by decide) rfl (fun ls hl => ?_)
            refine lv_aload_n S.x S.b d_Mpg_checkEnum_73 rfl (lv_at hl 1 rfl) ?_
            refine px_get S k_Mpg hT hw 0 0 21 (v := .ref (r 21)) rfl rfl rfl (by decide) m10_7 d_Mpg_checkEnum_74 ?_
            refine lv_iload_n S.x S.b d_Mpg_checkEnum_77 rfl (lv_at hl 3 rfl) ?_
            refine px_iald S hT hw 0 17 (n := 2100) (f := (na 21)) rfl gp_21 (x := x9_3) (vp_in_iff.mpr (by constructor <;> omega)) d_Mpg_checkEnum_78 ?_
            refine lv_topi (fun z134 ez134 => ?_)
            have lz134 := Int32.le_toInt z134
            have uz134 := Int32.toInt_lt z134
            refine lv_istore_n (lv' := [(3, .int z134), (2, .int z133), (0, .ref h), (1, .int p0)]) S.x S.b d_Mpg_checkEnum_79 rfl hl (by decide) rfl (fun ls hl => ?_)
            refine lv_goto (tgt := 9) S.x S.b d_Mpg_checkEnum_80 (by decide) ?_
            exact ih9 ma106 cf110 ca111 md2 (wr_9 - wv3) z133 z134 _ _ ls (show (cf110 30).toInt = 0 → (cf 30).toInt = 0 from by first | with_reducible rfl | with_reducible assumption | omega) (show WrV cf110 (tf 6).toInt from hwr) (show (cf110 37).toInt = (cf 37).toInt from by first | exact oz_ff3084e3c1 k9_2 e117 e17 hkk37_e65 | omega) (show (cf110 38).toInt = (cf 38).toInt from by first | exact oz_ff3084e3c1 k9_3 e118 e12 e68 | omega) (show (cf110 43).toInt = (cf 43).toInt from by first | exact oz_ff3084e3c1 k9_4 e121 e19 hkk43_e65 | omega) (show (cf110 44).toInt = (cf 44).toInt from by first | exact oz_ff3084e3c1 k9_5 e122 e20 hkk44_e65 | omega) (show (cf110 45).toInt = (cf 45).toInt from by first | exact oz_ff3084e3c1 k9_6 e123 e21 hkk45_e65 | omega) (show (cf110 46).toInt = (cf 46).toInt from by first | exact oz_ff3084e3c1 k9_7 e124 e14 e70 | omega) (show (cf110 47).toInt = (cf 47).toInt from by first | exact oz_ff3084e3c1 k9_8 e125 e15 e71 | omega) (show (cf110 41).toInt = (cf 41).toInt from by first | exact oz_ff3084e3c1 k9_9 e119 e26 hkk41_e65 | omega) (show (cf110 55).toInt = (cf 55).toInt from by first | exact oz_ff3084e3c1 k9_10 e128 e23 hkk55_e65 | omega) (show (cf110 48).toInt = (cf 48).toInt from by first | exact oz_ff3084e3c1 k9_11 e126 e13 e69 | omega) (show (cf110 42).toInt = (cf 42).toInt from by first | exact oz_ff3084e3c1 k9_12 e120 e18 hkk42_e65 | omega) (show (cf110 54).toInt = (cf 54).toInt from by first | exact oz_ff3084e3c1 k9_13 e127 e22 hkk54_e65 | omega) (show (cf110 59).toInt = (cf 59).toInt from by first | exact oz_ff3084e3c1 k9_14 e131 e25 hkk59_e65 | omega) (show (cf 33).toInt ≤ (cf110 33).toInt from by first | exact oz_6e66b3a32a k9_15 e114 e11 e67 | omega) (show 6 * (cf110 33).toInt ≤ 6 * (cf 33).toInt + (w - (wr_9 - wv3)) from by first | with_reducible rfl | with_reducible assumption | omega) (show KnT (tf 6).toInt ca111 (cf110 33).toInt from (KnT.eq hkt (by omega))) (show KnS ca111 (cf110 33).toInt (cf110 48).toInt ys from (KnS.eq hks (by omega) (by omega))) (show CaG ca ca111 (cf 33).toInt (cf 48).toInt from (hcg.le (by omega) (by omega))) (show Ann na ma0 ma106 from han) (show FrC lo hi ma ma106 from hfc) (show p0.toInt + 1 ≤ md2 from by first | with_reducible rfl | with_reducible assumption | omega) (show md2 ≤ hi from by first | exact hm2_md2 | omega) (show 0 ≤ (wr_9 - wv3) from by first | with_reducible rfl | with_reducible assumption | omega) (show (wr_9 - wv3) ≤ w from by first | with_reducible rfl | with_reducible assumption | omega) (show RvO ta (tf 6).toInt na ma0 d md2 hi (wr_9 - wv3) z134 from (by rw [ez134]; exact hro2)) (show hi - md2 < (n_9 : Int) from by first | with_reducible rfl | with_reducible assumption | omega) hw (lv_sub hl [2, 3, 1, 0] rfl)
  refine lv_iconst (v := 0) S.x S.b d_Mpg_checkEnum_0 (by decide) ?_
  refine lv_istore_n (lv' := [(2, .int 0), (0, .ref h), (1, .int p0)]) S.x S.b d_Mpg_checkEnum_1 rfl hl (by decide) rfl (fun ls hl => ?_)
  refine lv_aload_n S.x S.b d_Mpg_checkEnum_2 rfl (lv_at hl 1 rfl) ?_
  refine px_get S k_Mpg hT hw 0 0 17 (v := .ref (r 17)) rfl rfl rfl (by decide) m10_1 d_Mpg_checkEnum_3 ?_
  refine lv_iload_n S.x S.b d_Mpg_checkEnum_6 rfl (lv_at hl 2 rfl) ?_
  refine px_iald S hT hw 0 13 (n := 2100) (f := (na 17)) rfl gp_17 (x := p0) (vp_in_iff.mpr (by first | exact oz_a7e05de1cd g16 g18 g1 g2 | (constructor <;> omega))) d_Mpg_checkEnum_7 ?_
  refine lv_topi (fun z135 ez135 => ?_)
  have lz135 := Int32.le_toInt z135
  have uz135 := Int32.toInt_lt z135
  have rz135 : z135.toInt = (na 17 p0.toNatClampNeg).toInt := by rw [ez135]
  refine lv_istore_n (lv' := [(3, .int z135), (2, .int 0), (0, .ref h), (1, .int p0)]) S.x S.b d_Mpg_checkEnum_8 rfl hl (by decide) rfl (fun ls hl => ?_)
  exact J9 ((hi - (p0.toInt + 1)).toNat + 1) ma cf ca (p0.toInt + 1) w (0 : Int32) z135 _ _ ls (show (cf 30).toInt = 0 → (cf 30).toInt = 0 from by first | exact fun q9 => q9 | omega) (show WrV cf (tf 6).toInt from hwr) (show (cf 37).toInt = (cf 37).toInt from rfl) (show (cf 38).toInt = (cf 38).toInt from rfl) (show (cf 43).toInt = (cf 43).toInt from rfl) (show (cf 44).toInt = (cf 44).toInt from rfl) (show (cf 45).toInt = (cf 45).toInt from rfl) (show (cf 46).toInt = (cf 46).toInt from rfl) (show (cf 47).toInt = (cf 47).toInt from rfl) (show (cf 41).toInt = (cf 41).toInt from rfl) (show (cf 55).toInt = (cf 55).toInt from rfl) (show (cf 48).toInt = (cf 48).toInt from rfl) (show (cf 42).toInt = (cf 42).toInt from rfl) (show (cf 54).toInt = (cf 54).toInt from rfl) (show (cf 59).toInt = (cf 59).toInt from rfl) (show (cf 33).toInt ≤ (cf 33).toInt from by first | exact oz_1cb5f934a5 | omega) (show 6 * (cf 33).toInt ≤ 6 * (cf 33).toInt + (w - w) from by first | exact oz_1c3b0c11f9 | omega) (show KnT (tf 6).toInt ca (cf 33).toInt from (KnT.eq hkt (by omega))) (show KnS ca (cf 33).toInt (cf 48).toInt ys from (KnS.eq hks (by omega) (by omega))) (show CaG ca ca (cf 33).toInt (cf 48).toInt from (hcg.le (by omega) (by omega))) (show Ann na ma0 ma from han) (show FrC lo hi ma ma from hfc) (show p0.toInt + 1 ≤ (p0.toInt + 1) from by first | exact oz_a1bc7e1f12 | omega) (show (p0.toInt + 1) ≤ hi from by first | exact oz_8cd8185cc8 g18 | omega) (show 0 ≤ w from by first | exact g5 | omega) (show w ≤ w from by first | exact oz_1cb5f934a5 | omega) (show RvO ta (tf 6).toInt na ma0 d (p0.toInt + 1) hi w z135 from (by rw [ez135]; exact hro)) (show hi - (p0.toInt + 1) < ((((hi - (p0.toInt + 1)).toNat + 1 : Nat) : Int) : Int) from by first | exact oz_natlt | omega) hw (lv_sub hl [2, 3, 1, 0] rfl)
