theorem oz_de31075c7b {n0 : Nat}  : 8 + 1 ≤ (4 * n0 + 20) := by omega
theorem oz_34ebf4b518 {n0 : Nat}  : 8 + (3 + 11) + 330 ≤ (200 * n0 + 720) := by omega
theorem oz_3041b526ac {n0 : Nat}  : 8 + (5 + 11) + 0 ≤ (200 * n0 + 720) := by omega
theorem oz_7a877e6add {a0 a1 a2 a3 : Int} (h0 : a0 ≤ a2) (h1 : a1 = a3 + 1) (h2 : a3 = a2) : a0 ≤ a1 := by omega
theorem oz_8307cc973d {n0 : Nat}  : 8 + (5 + 11) + (200 * n0 + 640) ≤ (200 * n0 + 720) := by omega
abbrev b_Mpg_checkEnum : ByteArray := prog_16_method_102_code
def y_Mpg_checkEnum : MethodName := ⟨"HomeSystemModel$Program", "checkEnum", "(I)V"⟩
theorem d_Mpg_checkEnum_0 : decode b_Mpg_checkEnum 0 = .ok (.iconst 0, 1) := by decide +kernel
theorem d_Mpg_checkEnum_1 : decode b_Mpg_checkEnum 1 = .ok (.istore_n 2, 1) := by decide +kernel
theorem d_Mpg_checkEnum_2 : decode b_Mpg_checkEnum 2 = .ok (.aload_n 0, 1) := by decide +kernel
theorem d_Mpg_checkEnum_3 : decode b_Mpg_checkEnum 3 = .ok (.getfield 216, 3) := by decide +kernel
theorem d_Mpg_checkEnum_6 : decode b_Mpg_checkEnum 6 = .ok (.iload_n 1, 1) := by decide +kernel
theorem d_Mpg_checkEnum_7 : decode b_Mpg_checkEnum 7 = .ok (.iaload, 1) := by decide +kernel
theorem d_Mpg_checkEnum_8 : decode b_Mpg_checkEnum 8 = .ok (.istore_n 3, 1) := by decide +kernel
theorem d_Mpg_checkEnum_9 : decode b_Mpg_checkEnum 9 = .ok (.iload_n 3, 1) := by decide +kernel
theorem d_Mpg_checkEnum_10 : decode b_Mpg_checkEnum 10 = .ok (.ifCond .lt 73, 3) := by decide +kernel
theorem d_Mpg_checkEnum_13 : decode b_Mpg_checkEnum 13 = .ok (.aload_n 0, 1) := by decide +kernel
theorem d_Mpg_checkEnum_14 : decode b_Mpg_checkEnum 14 = .ok (.aload_n 0, 1) := by decide +kernel
theorem d_Mpg_checkEnum_15 : decode b_Mpg_checkEnum 15 = .ok (.getfield 210, 3) := by decide +kernel
theorem d_Mpg_checkEnum_18 : decode b_Mpg_checkEnum 18 = .ok (.iload_n 3, 1) := by decide +kernel
theorem d_Mpg_checkEnum_19 : decode b_Mpg_checkEnum 19 = .ok (.iaload, 1) := by decide +kernel
theorem d_Mpg_checkEnum_20 : decode b_Mpg_checkEnum 20 = .ok (.invokevirtual 618, 3) := by decide +kernel
theorem d_Mpg_checkEnum_23 : decode b_Mpg_checkEnum 23 = .ok (.aload_n 0, 1) := by decide +kernel
theorem d_Mpg_checkEnum_24 : decode b_Mpg_checkEnum 24 = .ok (.getfield 216, 3) := by decide +kernel
theorem d_Mpg_checkEnum_27 : decode b_Mpg_checkEnum 27 = .ok (.iload_n 3, 1) := by decide +kernel
theorem d_Mpg_checkEnum_28 : decode b_Mpg_checkEnum 28 = .ok (.iaload, 1) := by decide +kernel
theorem d_Mpg_checkEnum_29 : decode b_Mpg_checkEnum 29 = .ok (.ifCond .lt 21, 3) := by decide +kernel
theorem d_Mpg_checkEnum_32 : decode b_Mpg_checkEnum 32 = .ok (.aload_n 0, 1) := by decide +kernel
theorem d_Mpg_checkEnum_33 : decode b_Mpg_checkEnum 33 = .ok (.aload_n 0, 1) := by decide +kernel
theorem d_Mpg_checkEnum_34 : decode b_Mpg_checkEnum 34 = .ok (.getfield 216, 3) := by decide +kernel
theorem d_Mpg_checkEnum_37 : decode b_Mpg_checkEnum 37 = .ok (.iload_n 3, 1) := by decide +kernel
theorem d_Mpg_checkEnum_38 : decode b_Mpg_checkEnum 38 = .ok (.iaload, 1) := by decide +kernel
theorem d_Mpg_checkEnum_39 : decode b_Mpg_checkEnum 39 = .ok (.invokevirtual 593, 3) := by decide +kernel
theorem d_Mpg_checkEnum_42 : decode b_Mpg_checkEnum 42 = .ok (.ifCond .eq 8, 3) := by decide +kernel
theorem d_Mpg_checkEnum_45 : decode b_Mpg_checkEnum 45 = .ok (.aload_n 0, 1) := by decide +kernel
theorem d_Mpg_checkEnum_46 : decode b_Mpg_checkEnum 46 = .ok (.getfield 612, 3) := by decide +kernel
theorem d_Mpg_checkEnum_49 : decode b_Mpg_checkEnum 49 = .ok (.istore_n 2, 1) := by decide +kernel
theorem d_Mpg_checkEnum_50 : decode b_Mpg_checkEnum 50 = .ok (.aload_n 0, 1) := by decide +kernel
theorem d_Mpg_checkEnum_51 : decode b_Mpg_checkEnum 51 = .ok (.getfield 219, 3) := by decide +kernel
theorem d_Mpg_checkEnum_54 : decode b_Mpg_checkEnum 54 = .ok (.iload_n 3, 1) := by decide +kernel
theorem d_Mpg_checkEnum_55 : decode b_Mpg_checkEnum 55 = .ok (.iload_n 2, 1) := by decide +kernel
theorem d_Mpg_checkEnum_56 : decode b_Mpg_checkEnum 56 = .ok (.iastore, 1) := by decide +kernel
theorem d_Mpg_checkEnum_57 : decode b_Mpg_checkEnum 57 = .ok (.aload_n 0, 1) := by decide +kernel
theorem d_Mpg_checkEnum_58 : decode b_Mpg_checkEnum 58 = .ok (.aload_n 0, 1) := by decide +kernel
theorem d_Mpg_checkEnum_59 : decode b_Mpg_checkEnum 59 = .ok (.getfield 210, 3) := by decide +kernel
theorem d_Mpg_checkEnum_62 : decode b_Mpg_checkEnum 62 = .ok (.iload_n 3, 1) := by decide +kernel
theorem d_Mpg_checkEnum_63 : decode b_Mpg_checkEnum 63 = .ok (.iaload, 1) := by decide +kernel
theorem d_Mpg_checkEnum_64 : decode b_Mpg_checkEnum 64 = .ok (.iconst 4, 1) := by decide +kernel
theorem d_Mpg_checkEnum_65 : decode b_Mpg_checkEnum 65 = .ok (.iload_n 2, 1) := by decide +kernel
theorem d_Mpg_checkEnum_66 : decode b_Mpg_checkEnum 66 = .ok (.iconst (-1), 1) := by decide +kernel
theorem d_Mpg_checkEnum_67 : decode b_Mpg_checkEnum 67 = .ok (.invokevirtual 633, 3) := by decide +kernel
theorem d_Mpg_checkEnum_70 : decode b_Mpg_checkEnum 70 = .ok (.iinc 2 1, 3) := by decide +kernel
theorem d_Mpg_checkEnum_73 : decode b_Mpg_checkEnum 73 = .ok (.aload_n 0, 1) := by decide +kernel
theorem d_Mpg_checkEnum_74 : decode b_Mpg_checkEnum 74 = .ok (.getfield 228, 3) := by decide +kernel
theorem d_Mpg_checkEnum_77 : decode b_Mpg_checkEnum 77 = .ok (.iload_n 3, 1) := by decide +kernel
theorem d_Mpg_checkEnum_78 : decode b_Mpg_checkEnum 78 = .ok (.iaload, 1) := by decide +kernel
theorem d_Mpg_checkEnum_79 : decode b_Mpg_checkEnum 79 = .ok (.istore_n 3, 1) := by decide +kernel
theorem d_Mpg_checkEnum_80 : decode b_Mpg_checkEnum 80 = .ok (.goto (-71), 3) := by decide +kernel
theorem d_Mpg_checkEnum_83 : decode b_Mpg_checkEnum 83 = .ok (.return_, 1) := by decide +kernel
theorem q_Mpg_checkEnum : px_y y_Mpg_checkEnum 1 := by unfold px_y; decide +kernel
set_option maxHeartbeats 4000000 in
set_option maxRecDepth 100000 in
theorem c_mp_checkEnum (l : Launch) (D : va_G) (cs : Nat → ClassId) (ma0 : Nat → Nat → Int32) (ys : Int) (nf : Int) (d : Nat) (lo : Int) (hi : Int) (w : Int) (h : Nat) (r : Nat → Nat) (g : Nat → Nat → Option Nat) (tf : Nat → Int32) (ta : Nat → Nat → Int32) (pf : Nat → Int32) (na : Nat → Nat → Int32) (wa : Nat → Nat → Int32) (ef : Nat → Int32) (ea : Nat → Nat → Int32) (xf : Nat → Int32) (xa : Nat → Nat → Int32) (ma : Nat → Nat → Int32) (cf : Nat → Int32) (ca : Nat → Nat → Int32) (p0 : Int32)  (g0 : 0 ≤ lo) (g1 : hi ≤ (pf 13).toInt) (g2 : (pf 13).toInt ≤ 2100) (g3 : (tf 6).toInt ≤ 2049) (g4 : 0 ≤ (cf 33).toInt) (g5 : 0 ≤ w) (g6 : 6 * (cf 33).toInt + w ≤ 6540) (g7 : 0 ≤ (cf 48).toInt) (g8 : 6 * (cf 48).toInt ≤ 6540) (g9 : (cf 38).toInt = nf) (g10 : 0 ≤ nf) (g11 : 0 ≤ (cf 37).toInt) (g12 : 0 ≤ (cf 46).toInt) (g13 : (cf 46).toInt ≤ 1) (g14 : 0 ≤ (cf 47).toInt) (g15 : (cf 47).toInt ≤ 1) (g16 : 0 ≤ p0.toInt) (g17 : lo ≤ p0.toInt) (g18 : p0.toInt < hi) (htk : TkI tf ta) (hfs : FsI (tf 6).toInt (pf 13).toInt na) (hwr : WrV cf (tf 6).toInt) (hkt : KnT (tf 6).toInt ca (cf 33).toInt) (hft : FnT (tf 6).toInt na ca (cf 38).toInt) (hks : KnS ca (cf 33).toInt (cf 48).toInt ys) (hfp : FnP na ca nf) (han : Ann na ma0 ma) (hro : RvO ta (tf 6).toInt na ma0 d (p0.toInt + 1) hi w (na 17 p0.toNatClampNeg)) : MetV l y_Mpg_checkEnum b_Mpg_checkEnum 4 D cs (4 * d + 20) (200 * d + 720) (0) (0) [.ref h, .int p0] [wdP cs h r g tf ta pf na ma wa cf ca ef ea xf xa] (oX (fun A U H => (oP A g U H)) [wdP cs h r g tf ta pf na ma wa cf ca ef ea xf xa]) (fun ps => ∃ (ma' : Nat → Nat → Int32) (cf' : Nat → Int32) (ca' : Nat → Nat → Int32), (ps = [wdP cs h r g tf ta pf na ma' wa cf' ca' ef ea xf xa]) ∧ ((cf' 30).toInt = 0 → (cf 30).toInt = 0) ∧ (WrV cf' (tf 6).toInt) ∧ ((cf' 37).toInt = (cf 37).toInt) ∧ ((cf' 38).toInt = (cf 38).toInt) ∧ ((cf' 43).toInt = (cf 43).toInt) ∧ ((cf' 44).toInt = (cf 44).toInt) ∧ ((cf' 45).toInt = (cf 45).toInt) ∧ ((cf' 46).toInt = (cf 46).toInt) ∧ ((cf' 47).toInt = (cf 47).toInt) ∧ ((cf' 41).toInt = (cf 41).toInt) ∧ ((cf' 55).toInt = (cf 55).toInt) ∧ ((cf' 48).toInt = (cf 48).toInt) ∧ ((cf' 42).toInt = (cf 42).toInt) ∧ ((cf' 54).toInt = (cf 54).toInt) ∧ ((cf' 59).toInt = (cf 59).toInt) ∧ ((cf 33).toInt ≤ (cf' 33).toInt) ∧ (6 * (cf' 33).toInt ≤ 6 * (cf 33).toInt + (w)) ∧ (KnT (tf 6).toInt ca' (cf' 33).toInt) ∧ (KnS ca' (cf' 33).toInt (cf' 48).toInt ys) ∧ (CaG ca ca' (cf 33).toInt (cf 48).toInt) ∧ (Ann na ma0 ma') ∧ (FrC lo hi ma ma') ∧ (R_mp_checkEnum tf ta na p0 ma cf ca ma' cf' ca')) := by
  refine px_enter (by decide) (Nat.le_of_ble_eq_true rfl) ?_
  intro p e s m below meth c A ls hAe S hr hlk hnm hA hT hX hw hl
  have hl : lv_has ls 4 [(0, .ref h), (1, .int p0)] := hl
  have lp0 := Int32.le_toInt p0
  have up0 := Int32.toInt_lt p0
  have cstm1 : ((-1) : Int32).toInt = (-1) := rfl
  have cst0 : (0 : Int32).toInt = 0 := rfl
  have cst4 : (4 : Int32).toInt = 4 := rfl
  have hX : (fun A U H => (oP A g U H)) A s s.heap := by rw [hAe]; exact hX
  have hP := hX
  have hZ := hP.1
  have hF0 := hP.2.1
  have hfc : FrC lo hi ma ma := FrC.rf
  have hwr0 := hwr.1
  have hk11 := hkt.1
  have hf11 := hft.1
  have hcg : CaG ca ca (cf 33).toInt (cf 48).toInt := CaG.rf
  have hsr : SyR ca 5000 (cf 48).toInt 0 1 := syr_0 (by omega)
  have J9 : ∀ (n_9 : Nat) (ma_9 : Nat → Nat → Int32) (cf_9 : Nat → Int32) (ca_9 : Nat → Nat → Int32) (mid_9 : Int) (wr_9 : Int) (x9_2 x9_3 : Int32) (H : Heap) (locs : List Loc) (ls : Array Slot), ((cf_9 30).toInt = 0 → (cf 30).toInt = 0) → (WrV cf_9 (tf 6).toInt) → ((cf_9 37).toInt = (cf 37).toInt) → ((cf_9 38).toInt = (cf 38).toInt) → ((cf_9 43).toInt = (cf 43).toInt) → ((cf_9 44).toInt = (cf 44).toInt) → ((cf_9 45).toInt = (cf 45).toInt) → ((cf_9 46).toInt = (cf 46).toInt) → ((cf_9 47).toInt = (cf 47).toInt) → ((cf_9 41).toInt = (cf 41).toInt) → ((cf_9 55).toInt = (cf 55).toInt) → ((cf_9 48).toInt = (cf 48).toInt) → ((cf_9 42).toInt = (cf 42).toInt) → ((cf_9 54).toInt = (cf 54).toInt) → ((cf_9 59).toInt = (cf 59).toInt) → ((cf 33).toInt ≤ (cf_9 33).toInt) → (6 * (cf_9 33).toInt ≤ 6 * (cf 33).toInt + (w - wr_9)) → (KnT (tf 6).toInt ca_9 (cf_9 33).toInt) → (KnS ca_9 (cf_9 33).toInt (cf_9 48).toInt ys) → (CaG ca ca_9 (cf 33).toInt (cf 48).toInt) → (Ann na ma0 ma_9) → (FrC lo hi ma ma_9) → (p0.toInt + 1 ≤ mid_9) → (mid_9 ≤ hi) → (0 ≤ wr_9) → (wr_9 ≤ w) → (RvO ta (tf 6).toInt na ma0 d mid_9 hi wr_9 x9_3) → (K_mp_checkEnum_9 tf ta na p0 ma cf ca ma_9 cf_9 ca_9 x9_2 x9_3) → hi - mid_9 < (n_9 : Int) → pw D A s.heap H locs [wdP cs h r g tf ta pf na ma_9 wa cf_9 ca_9 ef ea xf xa] → lv_has ls 4 [(0, .ref h), (1, .int p0), (2, .int x9_2), (3, .int x9_3)] → W p l e { frames := (4 * d + 20), cells := 0, slots := 0, locals := (200 * d + 720) } s m [.ref h, .int p0].toArray below meth c H locs 0 0 (MQ below (va_Qv (fun ps => ∃ (ma' : Nat → Nat → Int32) (cf' : Nat → Int32) (ca' : Nat → Nat → Int32), (ps = [wdP cs h r g tf ta pf na ma' wa cf' ca' ef ea xf xa]) ∧ ((cf' 30).toInt = 0 → (cf 30).toInt = 0) ∧ (WrV cf' (tf 6).toInt) ∧ ((cf' 37).toInt = (cf 37).toInt) ∧ ((cf' 38).toInt = (cf 38).toInt) ∧ ((cf' 43).toInt = (cf 43).toInt) ∧ ((cf' 44).toInt = (cf 44).toInt) ∧ ((cf' 45).toInt = (cf 45).toInt) ∧ ((cf' 46).toInt = (cf 46).toInt) ∧ ((cf' 47).toInt = (cf 47).toInt) ∧ ((cf' 41).toInt = (cf 41).toInt) ∧ ((cf' 55).toInt = (cf 55).toInt) ∧ ((cf' 48).toInt = (cf 48).toInt) ∧ ((cf' 42).toInt = (cf 42).toInt) ∧ ((cf' 54).toInt = (cf 54).toInt) ∧ ((cf' 59).toInt = (cf 59).toInt) ∧ ((cf 33).toInt ≤ (cf' 33).toInt) ∧ (6 * (cf' 33).toInt ≤ 6 * (cf 33).toInt + (w)) ∧ (KnT (tf 6).toInt ca' (cf' 33).toInt) ∧ (KnS ca' (cf' 33).toInt (cf' 48).toInt ys) ∧ (CaG ca ca' (cf 33).toInt (cf 48).toInt) ∧ (Ann na ma0 ma') ∧ (FrC lo hi ma ma') ∧ (R_mp_checkEnum tf ta na p0 ma cf ca ma' cf' ca')) (pc_B D (va_A ([wdP cs h r g tf ta pf na ma wa cf ca ef ea xf xa] : List va_W).flatten s.heap.size)) (va_A ([wdP cs h r g tf ta pf na ma wa cf ca ef ea xf xa] : List va_W).flatten s.heap.size)) [.ref h, .int p0].toArray s 0 0 A) (F0 m 9 ls []) := by
    intro  n_9
    induction n_9 with
    | zero =>
      intro ma_9 cf_9 ca_9 mid_9 wr_9 x9_2 x9_3 H locs ls k9_0 k9_1 k9_2 k9_3 k9_4 k9_5 k9_6 k9_7 k9_8 k9_9 k9_10 k9_11 k9_12 k9_13 k9_14 k9_15 k9_16 k9_17 k9_18 k9_19 k9_20 k9_21 k9_22 k9_23 k9_24 k9_25 k9_26 k9_27 hm hw hl
      have lx9_2 := Int32.le_toInt x9_2
      have ux9_2 := Int32.toInt_lt x9_2
      have lx9_3 := Int32.le_toInt x9_3
      have ux9_3 := Int32.toInt_lt x9_3
      have hwr := k9_1
      have hw0_k9_1 := hwr.1
      have hkt := k9_17
      have hk11_k9_17 := hkt.1
      have hks := k9_18
      have hcg := k9_19
      have hft := hft.cg k9_19
      have hfp := hfp.cg k9_19
      have hsr := hsr.cg k9_19 (Int.le_refl _)
      have han := k9_20
      have hfc := k9_21
      have hro := k9_26
      exact absurd hm (by omega)
    | succ n_9 ih9 =>
      intro ma_9 cf_9 ca_9 mid_9 wr_9 x9_2 x9_3 H locs ls k9_0 k9_1 k9_2 k9_3 k9_4 k9_5 k9_6 k9_7 k9_8 k9_9 k9_10 k9_11 k9_12 k9_13 k9_14 k9_15 k9_16 k9_17 k9_18 k9_19 k9_20 k9_21 k9_22 k9_23 k9_24 k9_25 k9_26 k9_27 hm hw hl
      have lx9_2 := Int32.le_toInt x9_2
      have ux9_2 := Int32.toInt_lt x9_2
      have lx9_3 := Int32.le_toInt x9_3
      have ux9_3 := Int32.toInt_lt x9_3
      have hwr := k9_1
      have hw0_k9_1 := hwr.1
      have hkt := k9_17
      have hk11_k9_17 := hkt.1
      have hks := k9_18
      have hcg := k9_19
      have hft := hft.cg k9_19
      have hfp := hfp.cg k9_19
      have hsr := hsr.cg k9_19 (Int.le_refl _)
      have han := k9_20
      have hfc := k9_21
      have hro := k9_26
      refine lv_iload_n S.x S.b d_Mpg_checkEnum_9 rfl (lv_at hl 3 rfl) ?_
      refine lv_if_lt (tgt := 83) S.x S.b d_Mpg_checkEnum_10 (by decide) (fun c1 => ?_) (fun c1 => ?_)
      · have nc1 : x9_3.toInt < (0 : Int) := (i_lt (x := x9_3) (y := 0)).mp c1
        first | exact px_vret S hr hlk hAe hw (Nat.le_of_ble_eq_true rfl) (Nat.le_of_ble_eq_true rfl) (⟨ma_9, cf_9, ca_9, rfl, (show (cf_9 30).toInt = 0 → (cf 30).toInt = 0 from k9_0), (show WrV cf_9 (tf 6).toInt from hwr), (show (cf_9 37).toInt = (cf 37).toInt from k9_2), (show (cf_9 38).toInt = (cf 38).toInt from k9_3), (show (cf_9 43).toInt = (cf 43).toInt from k9_4), (show (cf_9 44).toInt = (cf 44).toInt from k9_5), (show (cf_9 45).toInt = (cf 45).toInt from k9_6), (show (cf_9 46).toInt = (cf 46).toInt from k9_7), (show (cf_9 47).toInt = (cf 47).toInt from k9_8), (show (cf_9 41).toInt = (cf 41).toInt from k9_9), (show (cf_9 55).toInt = (cf 55).toInt from k9_10), (show (cf_9 48).toInt = (cf 48).toInt from k9_11), (show (cf_9 42).toInt = (cf 42).toInt from k9_12), (show (cf_9 54).toInt = (cf 54).toInt from k9_13), (show (cf_9 59).toInt = (cf 59).toInt from k9_14), (show (cf 33).toInt ≤ (cf_9 33).toInt from k9_15), (show 6 * (cf_9 33).toInt ≤ 6 * (cf 33).toInt + (w) from (oz_45803030ed k9_16 k9_24)), (show KnT (tf 6).toInt ca_9 (cf_9 33).toInt from (KnT.eq hkt (by omega))), (show KnS ca_9 (cf_9 33).toInt (cf_9 48).toInt ys from (KnS.eq hks (by omega) (by omega))), (show CaG ca ca_9 (cf 33).toInt (cf 48).toInt from (hcg.le (by omega) (by omega))), (show Ann na ma0 ma_9 from han), (show FrC lo hi ma ma_9 from hfc), (show R_mp_checkEnum tf ta na p0 ma cf ca ma_9 cf_9 ca_9 from (k9_27 _ _ _ 1 (Or.inr (Or.inl ⟨rfl, x9_2, x9_3, rfl, rfl, rfl, rfl, rfl, Or.inl ⟨nc1, rfl, rfl, rfl⟩⟩))))⟩) d_Mpg_checkEnum_83 | (exact px_vret S hr hlk hAe hw (Nat.le_of_ble_eq_true rfl) (Nat.le_of_ble_eq_true rfl) (⟨ma_9, cf_9, ca_9, rfl, (show (cf_9 30).toInt = 0 → (cf 30).toInt = 0 from by first | exact k9_0 | omega), (show WrV cf_9 (tf 6).toInt from hwr), (show (cf_9 37).toInt = (cf 37).toInt from by first | exact k9_2 | omega), (show (cf_9 38).toInt = (cf 38).toInt from by first | exact k9_3 | omega), (show (cf_9 43).toInt = (cf 43).toInt from by first | exact k9_4 | omega), (show (cf_9 44).toInt = (cf 44).toInt from by first | exact k9_5 | omega), (show (cf_9 45).toInt = (cf 45).toInt from by first | exact k9_6 | omega), (show (cf_9 46).toInt = (cf 46).toInt from by first | exact k9_7 | omega), (show (cf_9 47).toInt = (cf 47).toInt from by first | exact k9_8 | omega), (show (cf_9 41).toInt = (cf 41).toInt from by first | exact k9_9 | omega), (show (cf_9 55).toInt = (cf 55).toInt from by first | exact k9_10 | omega), (show (cf_9 48).toInt = (cf 48).toInt from by first | exact k9_11 | omega), (show (cf_9 42).toInt = (cf 42).toInt from by first | exact k9_12 | omega), (show (cf_9 54).toInt = (cf 54).toInt from by first | exact k9_13 | omega), (show (cf_9 59).toInt = (cf 59).toInt from by first | exact k9_14 | omega), (show (cf 33).toInt ≤ (cf_9 33).toInt from by first | exact k9_15 | omega), (show 6 * (cf_9 33).toInt ≤ 6 * (cf 33).toInt + (w) from by first | exact oz_45803030ed k9_16 k9_24 | omega), (show KnT (tf 6).toInt ca_9 (cf_9 33).toInt from (KnT.eq hkt (by omega))), (show KnS ca_9 (cf_9 33).toInt (cf_9 48).toInt ys from (KnS.eq hks (by omega) (by omega))), (show CaG ca ca_9 (cf 33).toInt (cf 48).toInt from (hcg.le (by omega) (by omega))), (show Ann na ma0 ma_9 from han), (show FrC lo hi ma ma_9 from hfc), (show R_mp_checkEnum tf ta na p0 ma cf ca ma_9 cf_9 ca_9 from (k9_27 _ _ _ 1 (Or.inr (Or.inl ⟨rfl, x9_2, x9_3, rfl, rfl, rfl, rfl, rfl, Or.inl ⟨nc1, rfl, rfl, rfl⟩⟩))))⟩) d_Mpg_checkEnum_83)
      · have nc1 : ¬ x9_3.toInt < (0 : Int) := mt (i_lt (x := x9_3) (y := 0)).mpr c1
        refine lv_aload_n S.x S.b d_Mpg_checkEnum_13 rfl (lv_at hl 0 rfl) ?_
        obtain ⟨md3, wv4, hm1_md3, hm2_md3, hm3_md3, hco_x9_3, hx3_md3, hro2⟩ := RvE.step hro (by omega); have hwp2 := RvE.wp hro2; have hck_md3 := hco_x9_3.2.1; have hcw_md3 := hco_x9_3.2.2.2.1; have hcx := hco_x9_3.2.2.2.2
        refine lv_aload_n S.x S.b d_Mpg_checkEnum_14 rfl (lv_at hl 0 rfl) ?_
        refine gP_15 S hT hw 0 rfl m9_239 d_Mpg_checkEnum_15 ?_
        refine lv_iload_n S.x S.b d_Mpg_checkEnum_18 rfl (lv_at hl 3 rfl) ?_
        refine px_iald S hT hw 0 11 (n := 2100) (f := (na 15)) rfl gp_15 (x := x9_3) (vp_in_iff.mpr (by constructor <;> omega)) d_Mpg_checkEnum_19 ?_
        refine lv_topi (fun z5 ez5 => ?_)
        have lz5 := Int32.le_toInt z5
        have uz5 := Int32.toInt_lt z5
        have rz5 := CoV.tok hco_x9_3 ez5
        first | refine px_callv (pr := []) (px_runV (As := [.int z5]) (rest := []) S (c_mp_checkNew l D cs h r g tf ta pf na ma_9 wa ca_9 ef ea xf xa cf_9 z5  (show 0 ≤ z5.toInt from rz5.1) (show z5.toInt < (tf 6).toInt from by omega) (show (tf 6).toInt ≤ 2049 from g3) (show 0 ≤ (cf_9 33).toInt from (oz_16d7fa9f32 k9_15 g4)) (show 0 ≤ (cf_9 37).toInt from (oz_f3ebed1ad0 k9_2 g11)) (show 0 ≤ (cf_9 38).toInt from (oz_e2fef14871 k9_3 g9 g10)) htk hwr (KnT.eq hkt (by omega)) (FnT.eq hft (by omega)) _) hT (pr := []) (pcs := [wdP cs h r g tf ta pf na ma_9 wa cf_9 ca_9 ef ea xf xa]) hw (oX_call (P := (fun A U H => (oP A g U H))) (pr := []) oG_P hw hA hP) (px_recv hT hw 0 0 rfl rfl rfl) m12_177 m12_174 m12_176 ms_11_13 m1_21 q_Mpg_checkNew ⟨show 8 + 1 ≤ (4 * d + 20) from (oz_de31075c7b), show 8 + (3 + 11) + 330 ≤ (200 * d + 720) from (oz_34ebf4b518)⟩ hl.1 rfl (Nat.le_of_ble_eq_true rfl) d_Mpg_checkEnum_20 ⟨Nat.le_of_ble_eq_true rfl, Nat.le_of_ble_eq_true rfl⟩) hw hA (fun p8 H locs hp8 hw => ?_) | (refine px_callv (pr := []) (px_runV (As := [.int z5]) (rest := []) S (c_mp_checkNew l D cs h r g tf ta pf na ma_9 wa ca_9 ef ea xf xa cf_9 z5  (show 0 ≤ z5.toInt from by first | exact rz5.1 | omega) (show z5.toInt < (tf 6).toInt from by omega) (show (tf 6).toInt ≤ 2049 from by first | exact g3 | omega) (show 0 ≤ (cf_9 33).toInt from by first | exact oz_16d7fa9f32 k9_15 g4 | omega) (show 0 ≤ (cf_9 37).toInt from by first | exact oz_f3ebed1ad0 k9_2 g11 | omega) (show 0 ≤ (cf_9 38).toInt from by first | exact oz_e2fef14871 k9_3 g9 g10 | omega) htk hwr (KnT.eq hkt (by omega)) (FnT.eq hft (by omega)) _) hT (pr := []) (pcs := [wdP cs h r g tf ta pf na ma_9 wa cf_9 ca_9 ef ea xf xa]) hw (oX_call (P := (fun A U H => (oP A g U H))) (pr := []) oG_P hw hA hP) (px_recv hT hw 0 0 rfl rfl rfl) m12_177 m12_174 m12_176 ms_11_13 m1_21 q_Mpg_checkNew ⟨show 8 + 1 ≤ (4 * d + 20) from (by first | exact oz_de31075c7b | omega), show 8 + (3 + 11) + 330 ≤ (200 * d + 720) from (by first | exact oz_34ebf4b518 | omega)⟩ hl.1 rfl (Nat.le_of_ble_eq_true rfl) d_Mpg_checkEnum_20 ⟨Nat.le_of_ble_eq_true rfl, Nat.le_of_ble_eq_true rfl⟩) hw hA (fun p8 H locs hp8 hw => ?_))
        obtain ⟨cf7, rfl, e10, e11, e12, e13, e14, e15, e16, e17, e18, e19, e20, e21, e22, e23, e24, e25, e26, e27, e28⟩ := hp8
        have e10 : KpE cf_9 cf7 := e10
        have hkz_e10 := e10.2
        have e11 : WrV cf7 (tf 6).toInt := e11
        have hwr := e11
        have hw0_e11 := hwr.1
        have e12 : (cf7 33).toInt = (cf_9 33).toInt := e12
        have e13 : (cf7 38).toInt = (cf_9 38).toInt := e13
        have e14 : (cf7 48).toInt = (cf_9 48).toInt := e14
        have e15 : (cf7 46).toInt = (cf_9 46).toInt := e15
        have e16 : (cf7 47).toInt = (cf_9 47).toInt := e16
        have e17 : (cf7 57).toInt = (cf_9 57).toInt := e17
        have e18 : (cf7 37).toInt = (cf_9 37).toInt := e18
        have e19 : (cf7 42).toInt = (cf_9 42).toInt := e19
        have e20 : (cf7 43).toInt = (cf_9 43).toInt := e20
        have e21 : (cf7 44).toInt = (cf_9 44).toInt := e21
        have e22 : (cf7 45).toInt = (cf_9 45).toInt := e22
        have e23 : (cf7 54).toInt = (cf_9 54).toInt := e23
        have e24 : (cf7 55).toInt = (cf_9 55).toInt := e24
        have e25 : (cf7 58).toInt = (cf_9 58).toInt := e25
        have e26 : (cf7 59).toInt = (cf_9 59).toInt := e26
        have e27 : (cf7 41).toInt = (cf_9 41).toInt := e27
        have e28 : R_mp_checkNew tf ta na ca_9 z5 cf_9 cf7 := e28
        refine lv_aload_n S.x S.b d_Mpg_checkEnum_23 rfl (lv_at hl 0 rfl) ?_
        refine gP_17 S hT hw 0 rfl m10_1 d_Mpg_checkEnum_24 ?_
        refine lv_iload_n S.x S.b d_Mpg_checkEnum_27 rfl (lv_at hl 3 rfl) ?_
        refine px_iald S hT hw 0 13 (n := 2100) (f := (na 17)) rfl gp_17 (x := x9_3) (vp_in_iff.mpr (by constructor <;> omega)) d_Mpg_checkEnum_28 ?_
        refine lv_topi (fun z29 ez29 => ?_)
        have lz29 := Int32.le_toInt z29
        have uz29 := Int32.toInt_lt z29
        have rz29 : z29.toInt = (na 17 x9_3.toNatClampNeg).toInt := by rw [ez29]
        refine lv_if_lt (tgt := 50) S.x S.b d_Mpg_checkEnum_29 (by decide) (fun c30 => ?_) (fun c30 => ?_)
        · have nc30 : z29.toInt < (0 : Int) := (i_lt (x := z29) (y := 0)).mp c30
          refine lv_aload_n S.x S.b d_Mpg_checkEnum_50 rfl (lv_at hl 0 rfl) ?_
          refine gP_18 S hT hw 0 rfl m10_3 d_Mpg_checkEnum_51 ?_
          refine lv_iload_n S.x S.b d_Mpg_checkEnum_54 rfl (lv_at hl 3 rfl) ?_
          refine lv_iload_n S.x S.b d_Mpg_checkEnum_55 rfl (lv_at hl 2 rfl) ?_
          refine px_iast S hT hw 0 14 (n := 2100) (f := (ma_9 18)) (x := x9_3) (y := x9_2) rfl gp_18 (vp_in_iff.mpr (by constructor <;> omega)) d_Mpg_checkEnum_56 (w' := wdP cs h r g tf ta pf na (va_up ma_9 18 (upd (ma_9 18) x9_3.toNatClampNeg x9_2)) wa cf7 ca_9 ef ea xf xa) (ps' := [wdP cs h r g tf ta pf na (va_up ma_9 18 (upd (ma_9 18) x9_3.toNatClampNeg x9_2)) wa cf7 ca_9 ef ea xf xa]) sp_18 rfl (fun H locs hw => ?_)
          obtain ⟨ma32, hu_ma32⟩ : ∃ y : Nat → Nat → Int32, y = va_up ma_9 18 (upd (ma_9 18) x9_3.toNatClampNeg x9_2) := ⟨_, rfl⟩
          have hw : pw D A s.heap _ _ [wdP cs h r g tf ta pf na ma32 wa cf7 ca_9 ef ea xf xa] := (by rw [hu_ma32]; exact hw)
          have hf1_ma32 : FrC x9_3.toInt (x9_3.toInt + 1) ma_9 ma32 := (by rw [hu_ma32]; exact FrC.w FrC.rf (by omega) (by omega) (by omega))
          have han : Ann na ma0 ma32 := (by rw [hu_ma32]; exact Ann.w18 han (by omega))
          have hfc := hfc.tr hf1_ma32 (by omega) (by omega)
          have hv_18_x9_3 : ma32 18 x9_3.toNatClampNeg = x9_2 := (by rw [hu_ma32, va_up_s, pk_us])
          have hnhv_18_x9_3 : (ma32 18 x9_3.toNatClampNeg).toInt = x9_2.toInt := (by rw [hv_18_x9_3])
          refine lv_aload_n S.x S.b d_Mpg_checkEnum_57 rfl (lv_at hl 0 rfl) ?_
          refine lv_aload_n S.x S.b d_Mpg_checkEnum_58 rfl (lv_at hl 0 rfl) ?_
          refine gP_15 S hT hw 0 rfl m9_239 d_Mpg_checkEnum_59 ?_
          refine lv_iload_n S.x S.b d_Mpg_checkEnum_62 rfl (lv_at hl 3 rfl) ?_
          refine px_iald S hT hw 0 11 (n := 2100) (f := (na 15)) rfl gp_15 (x := x9_3) (vp_in_iff.mpr (by constructor <;> omega)) d_Mpg_checkEnum_63 ?_
          refine lv_topi (fun z33 ez33 => ?_)
          have lz33 := Int32.le_toInt z33
          have uz33 := Int32.toInt_lt z33
          have rz33 := CoV.tok hco_x9_3 ez33
          refine lv_iconst (v := 4) S.x S.b d_Mpg_checkEnum_64 (by decide) ?_
          refine lv_iload_n S.x S.b d_Mpg_checkEnum_65 rfl (lv_at hl 2 rfl) ?_
          refine lv_iconst (v := (-1)) S.x S.b d_Mpg_checkEnum_66 (by decide) ?_
          first | refine px_callv (pr := []) (px_runV (As := [.int z33, .int 4, .int x9_2, .int (-1)]) (rest := []) S (c_mp_know l D cs h r g tf ta pf na ma32 wa ef ea xf xa cf7 ca_9 z33 4 x9_2 (-1)  (show 0 ≤ (cf7 33).toInt from (oz_9921a0d148 e12 k9_15 g4)) (show (cf7 33).toInt < 1100 from (oz_b0b3c00e64 e12 k9_16 g6 k9_24)) htk _) hT (pr := []) (pcs := [wdP cs h r g tf ta pf na ma32 wa cf7 ca_9 ef ea xf xa]) hw px_X.tt (px_recv hT hw 0 0 rfl rfl rfl) m12_193 m12_190 m12_192 ms_12_1 m1_21 q_Mpg_know ⟨show 0 + 1 ≤ (4 * d + 20) from (oz_8385159a22), show 8 + (5 + 11) + 0 ≤ (200 * d + 720) from (oz_3041b526ac)⟩ hl.1 rfl (Nat.le_of_ble_eq_true rfl) d_Mpg_checkEnum_67 ⟨Nat.le_of_ble_eq_true rfl, Nat.le_of_ble_eq_true rfl⟩) hw hA (fun p38 H locs hp38 hw => ?_) | (refine px_callv (pr := []) (px_runV (As := [.int z33, .int 4, .int x9_2, .int (-1)]) (rest := []) S (c_mp_know l D cs h r g tf ta pf na ma32 wa ef ea xf xa cf7 ca_9 z33 4 x9_2 (-1)  (show 0 ≤ (cf7 33).toInt from by first | exact oz_9921a0d148 e12 k9_15 g4 | omega) (show (cf7 33).toInt < 1100 from by first | exact oz_b0b3c00e64 e12 k9_16 g6 k9_24 | omega) htk _) hT (pr := []) (pcs := [wdP cs h r g tf ta pf na ma32 wa cf7 ca_9 ef ea xf xa]) hw px_X.tt (px_recv hT hw 0 0 rfl rfl rfl) m12_193 m12_190 m12_192 ms_12_1 m1_21 q_Mpg_know ⟨show 0 + 1 ≤ (4 * d + 20) from (by first | exact oz_8385159a22 | omega), show 8 + (5 + 11) + 0 ≤ (200 * d + 720) from (by first | exact oz_3041b526ac | omega)⟩ hl.1 rfl (Nat.le_of_ble_eq_true rfl) d_Mpg_checkEnum_67 ⟨Nat.le_of_ble_eq_true rfl, Nat.le_of_ble_eq_true rfl⟩) hw hA (fun p38 H locs hp38 hw => ?_))
          obtain ⟨cf36, ca37, rfl, e40, e41, e42, e43, e44, e45, e46, e47, e48, e49, e50, e51, e52, e53, e54, e55, e56, e57, e58, e59⟩ := hp38
          have e40 : (cf36 33).toInt = (cf7 33).toInt + 1 := e40
          have e41 : (cf36 30).toInt = (cf7 30).toInt := e41
          have e42 : (cf36 31).toInt = (cf7 31).toInt := e42
          have e43 : (cf36 37).toInt = (cf7 37).toInt := e43
          have e44 : (cf36 38).toInt = (cf7 38).toInt := e44
          have e45 : (cf36 41).toInt = (cf7 41).toInt := e45
          have e46 : (cf36 42).toInt = (cf7 42).toInt := e46
          have e47 : (cf36 43).toInt = (cf7 43).toInt := e47
          have e48 : (cf36 44).toInt = (cf7 44).toInt := e48
          have e49 : (cf36 45).toInt = (cf7 45).toInt := e49
          have e50 : (cf36 46).toInt = (cf7 46).toInt := e50
          have e51 : (cf36 47).toInt = (cf7 47).toInt := e51
          have e52 : (cf36 48).toInt = (cf7 48).toInt := e52
          have e53 : (cf36 54).toInt = (cf7 54).toInt := e53
          have e54 : (cf36 55).toInt = (cf7 55).toInt := e54
          have e55 : (cf36 57).toInt = (cf7 57).toInt := e55
          have e56 : (cf36 58).toInt = (cf7 58).toInt := e56
          have e57 : (cf36 59).toInt = (cf7 59).toInt := e57
          have e58 : KwU ca_9 ca37 (cf7 33) z33 (4 : Int32) x9_2 (-1 : Int32) := e58
          have hcw_e58 : CaG ca_9 ca37 (cf7 33).toInt (cf36 48).toInt := cag_kw e58 (by omega) (by omega)
          have hkt : KnT (tf 6).toInt ca37 (cf36 33).toInt := KnT.eq (KnT.kw (KnT.eq hkt (n' := (cf7 33).toInt) (by omega)) e58 rfl (by omega) (by omega) ⟨by omega, by omega⟩) (by omega)
          have hks : KnS ca37 (cf36 33).toInt (cf36 48).toInt ys := KnS.eq (KnS.kw (KnS.eq hks (n' := (cf7 33).toInt) (by omega) rfl) e58 rfl (by omega) (Or.inr (Or.inr ⟨by omega, by decide⟩))) (by omega) (by omega)
          have hcg := hcg.tr hcw_e58 (by omega) (by omega)
          have hft := hft.cg hcw_e58
          have hfp := hfp.cg hcw_e58
          have hsr := hsr.cg hcw_e58 (by omega)
          have e59 : R_mp_know z33 (4 : Int32) x9_2 (-1 : Int32) cf7 ca_9 cf36 ca37 := e59
          have hwr : WrV cf36 (tf 6).toInt := WrV.eq hwr (by omega) (by omega)
          obtain ⟨z60, ez60⟩ : ∃ y : Int32, y = x9_2 + 1 := ⟨_, rfl⟩
          have tz60 : z60.toInt = (x9_2.toInt + 1 + 2147483648) % 4294967296 - 2147483648 := by rw [ez60]; exact i_add x9_2 1
          have lz60 := Int32.le_toInt z60
          have uz60 := Int32.toInt_lt z60
          try replace tz60 : z60.toInt = x9_2.toInt + 1 := by omega
          refine lv_iinc (v := z60) (lv' := [(2, .int z60), (0, .ref h), (1, .int p0), (3, .int x9_3)]) S.x S.b d_Mpg_checkEnum_70 hl (k := 2) rfl (by rw [ez60]; rfl) (by decide) rfl (fun ls hl => ?_)
          refine lv_aload_n S.x S.b d_Mpg_checkEnum_73 rfl (lv_at hl 1 rfl) ?_
          refine gP_21 S hT hw 0 rfl m10_7 d_Mpg_checkEnum_74 ?_
          refine lv_iload_n S.x S.b d_Mpg_checkEnum_77 rfl (lv_at hl 3 rfl) ?_
          refine px_iald S hT hw 0 17 (n := 2100) (f := (na 21)) rfl gp_21 (x := x9_3) (vp_in_iff.mpr (by constructor <;> omega)) d_Mpg_checkEnum_78 ?_
          refine lv_topi (fun z61 ez61 => ?_)
          have lz61 := Int32.le_toInt z61
          have uz61 := Int32.toInt_lt z61
          refine lv_istore_n (lv' := [(3, .int z61), (2, .int z60), (0, .ref h), (1, .int p0)]) S.x S.b d_Mpg_checkEnum_79 rfl hl (by decide) rfl (fun ls hl => ?_)
          refine lv_goto (tgt := 9) S.x S.b d_Mpg_checkEnum_80 (by decide) ?_
          first | exact ih9 ma32 cf36 ca37 md3 (wr_9 - wv4) z60 z61 _ _ ls (show (cf36 30).toInt = 0 → (cf 30).toInt = 0 from by omega) (show WrV cf36 (tf 6).toInt from hwr) (show (cf36 37).toInt = (cf 37).toInt from (oz_e13fc83238 k9_2 e43 e18)) (show (cf36 38).toInt = (cf 38).toInt from (oz_e13fc83238 k9_3 e44 e13)) (show (cf36 43).toInt = (cf 43).toInt from (oz_e13fc83238 k9_4 e47 e20)) (show (cf36 44).toInt = (cf 44).toInt from (oz_e13fc83238 k9_5 e48 e21)) (show (cf36 45).toInt = (cf 45).toInt from (oz_e13fc83238 k9_6 e49 e22)) (show (cf36 46).toInt = (cf 46).toInt from (oz_e13fc83238 k9_7 e50 e15)) (show (cf36 47).toInt = (cf 47).toInt from (oz_e13fc83238 k9_8 e51 e16)) (show (cf36 41).toInt = (cf 41).toInt from (oz_e13fc83238 k9_9 e45 e27)) (show (cf36 55).toInt = (cf 55).toInt from (oz_e13fc83238 k9_10 e54 e24)) (show (cf36 48).toInt = (cf 48).toInt from (oz_e13fc83238 k9_11 e52 e14)) (show (cf36 42).toInt = (cf 42).toInt from (oz_e13fc83238 k9_12 e46 e19)) (show (cf36 54).toInt = (cf 54).toInt from (oz_e13fc83238 k9_13 e53 e23)) (show (cf36 59).toInt = (cf 59).toInt from (oz_e13fc83238 k9_14 e57 e26)) (show (cf 33).toInt ≤ (cf36 33).toInt from (oz_7a877e6add k9_15 e40 e12)) (show 6 * (cf36 33).toInt ≤ 6 * (cf 33).toInt + (w - (wr_9 - wv4)) from by omega) (show KnT (tf 6).toInt ca37 (cf36 33).toInt from (KnT.eq hkt (by omega))) (show KnS ca37 (cf36 33).toInt (cf36 48).toInt ys from (KnS.eq hks (by omega) (by omega))) (show CaG ca ca37 (cf 33).toInt (cf 48).toInt from (hcg.le (by omega) (by omega))) (show Ann na ma0 ma32 from han) (show FrC lo hi ma ma32 from hfc) (show p0.toInt + 1 ≤ md3 from by omega) (show md3 ≤ hi from hm2_md3) (show 0 ≤ (wr_9 - wv4) from by omega) (show (wr_9 - wv4) ≤ w from by omega) (show RvO ta (tf 6).toInt na ma0 d md3 hi (wr_9 - wv4) z61 from (by rw [ez61]; exact hro2)) (show K_mp_checkEnum_9 tf ta na p0 ma cf ca ma32 cf36 ca37 z60 z61 from (fun y_f0 y_f1 y_f2 k hE => k9_27 y_f0 y_f1 y_f2 (k + 1) (Or.inr (Or.inl ⟨rfl, x9_2, x9_3, rfl, rfl, rfl, rfl, rfl, Or.inr ⟨nc1, z5, ez5, cf7, e28, z29, ez29, Or.inl ⟨nc30, ma32, hu_ma32, z33, ez33, cf36, ca37, e59, z60, ez60, z61, ez61, hE⟩⟩⟩)))) (show hi - md3 < (n_9 : Int) from by omega) hw (lv_sub hl [2, 3, 1, 0] rfl) | (exact ih9 ma32 cf36 ca37 md3 (wr_9 - wv4) z60 z61 _ _ ls (show (cf36 30).toInt = 0 → (cf 30).toInt = 0 from by omega) (show WrV cf36 (tf 6).toInt from hwr) (show (cf36 37).toInt = (cf 37).toInt from by first | exact oz_e13fc83238 k9_2 e43 e18 | omega) (show (cf36 38).toInt = (cf 38).toInt from by first | exact oz_e13fc83238 k9_3 e44 e13 | omega) (show (cf36 43).toInt = (cf 43).toInt from by first | exact oz_e13fc83238 k9_4 e47 e20 | omega) (show (cf36 44).toInt = (cf 44).toInt from by first | exact oz_e13fc83238 k9_5 e48 e21 | omega) (show (cf36 45).toInt = (cf 45).toInt from by first | exact oz_e13fc83238 k9_6 e49 e22 | omega) (show (cf36 46).toInt = (cf 46).toInt from by first | exact oz_e13fc83238 k9_7 e50 e15 | omega) (show (cf36 47).toInt = (cf 47).toInt from by first | exact oz_e13fc83238 k9_8 e51 e16 | omega) (show (cf36 41).toInt = (cf 41).toInt from by first | exact oz_e13fc83238 k9_9 e45 e27 | omega) (show (cf36 55).toInt = (cf 55).toInt from by first | exact oz_e13fc83238 k9_10 e54 e24 | omega) (show (cf36 48).toInt = (cf 48).toInt from by first | exact oz_e13fc83238 k9_11 e52 e14 | omega) (show (cf36 42).toInt = (cf 42).toInt from by first | exact oz_e13fc83238 k9_12 e46 e19 | omega) (show (cf36 54).toInt = (cf 54).toInt from by first | exact oz_e13fc83238 k9_13 e53 e23 | omega) (show (cf36 59).toInt = (cf 59).toInt from by first | exact oz_e13fc83238 k9_14 e57 e26 | omega) (show (cf 33).toInt ≤ (cf36 33).toInt from by first | exact oz_7a877e6add k9_15 e40 e12 | omega) (show 6 * (cf36 33).toInt ≤ 6 * (cf 33).toInt + (w - (wr_9 - wv4)) from by omega) (show KnT (tf 6).toInt ca37 (cf36 33).toInt from (KnT.eq hkt (by omega))) (show KnS ca37 (cf36 33).toInt (cf36 48).toInt ys from (KnS.eq hks (by omega) (by omega))) (show CaG ca ca37 (cf 33).toInt (cf 48).toInt from (hcg.le (by omega) (by omega))) (show Ann na ma0 ma32 from han) (show FrC lo hi ma ma32 from hfc) (show p0.toInt + 1 ≤ md3 from by omega) (show md3 ≤ hi from by first | exact hm2_md3 | omega) (show 0 ≤ (wr_9 - wv4) from by omega) (show (wr_9 - wv4) ≤ w from by omega) (show RvO ta (tf 6).toInt na ma0 d md3 hi (wr_9 - wv4) z61 from (by rw [ez61]; exact hro2)) (show K_mp_checkEnum_9 tf ta na p0 ma cf ca ma32 cf36 ca37 z60 z61 from (fun y_f0 y_f1 y_f2 k hE => k9_27 y_f0 y_f1 y_f2 (k + 1) (Or.inr (Or.inl ⟨rfl, x9_2, x9_3, rfl, rfl, rfl, rfl, rfl, Or.inr ⟨nc1, z5, ez5, cf7, e28, z29, ez29, Or.inl ⟨nc30, ma32, hu_ma32, z33, ez33, cf36, ca37, e59, z60, ez60, z61, ez61, hE⟩⟩⟩)))) (show hi - md3 < (n_9 : Int) from by omega) hw (lv_sub hl [2, 3, 1, 0] rfl))
        · have nc30 : ¬ z29.toInt < (0 : Int) := mt (i_lt (x := z29) (y := 0)).mpr c30
          refine lv_aload_n S.x S.b d_Mpg_checkEnum_32 rfl (lv_at hl 0 rfl) ?_
          refine lv_aload_n S.x S.b d_Mpg_checkEnum_33 rfl (lv_at hl 0 rfl) ?_
          refine gP_17 S hT hw 0 rfl m10_1 d_Mpg_checkEnum_34 ?_
          refine lv_iload_n S.x S.b d_Mpg_checkEnum_37 rfl (lv_at hl 3 rfl) ?_
          refine px_iald S hT hw 0 13 (n := 2100) (f := (na 17)) rfl gp_17 (x := x9_3) (vp_in_iff.mpr (by constructor <;> omega)) d_Mpg_checkEnum_38 ?_
          refine lv_topi (fun z62 ez62 => ?_)
          have lz62 := Int32.le_toInt z62
          have uz62 := Int32.toInt_lt z62
          have rz62 : z62.toInt = (na 17 x9_3.toNatClampNeg).toInt := by rw [ez62]
          have hev_z62 : ErV ta (tf 6).toInt na ma0 d (x9_3.toInt + 1) md3 (wv4 - 6) z62 := (by rw [ez62]; exact OcV.get hcx (by rw [← ez62]; omega)); obtain ⟨hec_z62, h20_z62, hw_z62⟩ := hev_z62.ec; have hrg_z62 := EcV.rng hec_z62
          first | refine px_calli (pr := []) (px_runV (As := [.int z62]) (rest := []) S (c_mp_checkConstant l D cs ma0 ys (cf7 48).toInt nf (cf7 33).toInt d (x9_3.toInt + 1) md3 h r g tf ta pf na wa ca_9 ef ea xf xa ma_9 cf7 z62  (show 0 ≤ (x9_3.toInt + 1) from (oz_0073e084eb nc1)) (show md3 ≤ (pf 13).toInt from (oz_bbb5b20c1a g1 hm2_md3)) (show (pf 13).toInt ≤ 2100 from g2) (show (tf 6).toInt ≤ 2049 from g3) (show (cf7 33).toInt = (cf7 33).toInt from rfl) (show 0 ≤ (cf7 33).toInt from (oz_9921a0d148 e12 k9_15 g4)) (show (cf7 48).toInt = (cf7 48).toInt from rfl) (show (cf7 38).toInt = nf from (oz_e13fc83238 g9 e13 k9_3)) (show 0 ≤ nf from g10) (show 0 ≤ (cf7 46).toInt from (oz_e2fef14871 e15 k9_7 g12)) (show (cf7 46).toInt ≤ 1 from (oz_916d756328 e15 k9_7 g13)) (show 0 ≤ (cf7 47).toInt from (oz_e2fef14871 e16 k9_8 g14)) (show (cf7 47).toInt ≤ 1 from (oz_916d756328 e16 k9_8 g15)) htk (FsI.le (N' := (pf 13).toInt) hfs (by omega)) hwr (KnT.eq hkt (by omega)) (FnT.eq hft (by omega)) (KnS.eq hks (by omega) (by omega)) hfp han hec_z62 (by first | assumption | omega) _) hT (pr := []) (pcs := [wdP cs h r g tf ta pf na ma_9 wa cf7 ca_9 ef ea xf xa]) hw (oX_call (P := (fun A U H => (oP A g U H))) (pr := []) oG_P hw hA hP) (px_recv hT hw 0 0 rfl rfl rfl) m12_237 m12_234 m12_236 ms_12_12 m1_21 q_Mpg_checkConstant ⟨show (4 * d + 18) + 1 ≤ (4 * d + 20) from (oz_806aa97e85), show 8 + (5 + 11) + (200 * d + 640) ≤ (200 * d + 720) from (oz_8307cc973d)⟩ hl.1 rfl (Nat.le_of_ble_eq_true rfl) d_Mpg_checkEnum_39 ⟨Nat.le_of_ble_eq_true rfl, Nat.le_of_ble_eq_true rfl⟩) hw hA (fun v68 p67 H locs hp67 hw => ?_) | (refine px_calli (pr := []) (px_runV (As := [.int z62]) (rest := []) S (c_mp_checkConstant l D cs ma0 ys (cf7 48).toInt nf (cf7 33).toInt d (x9_3.toInt + 1) md3 h r g tf ta pf na wa ca_9 ef ea xf xa ma_9 cf7 z62  (show 0 ≤ (x9_3.toInt + 1) from by first | exact oz_0073e084eb nc1 | omega) (show md3 ≤ (pf 13).toInt from by first | exact oz_bbb5b20c1a g1 hm2_md3 | omega) (show (pf 13).toInt ≤ 2100 from by first | exact g2 | omega) (show (tf 6).toInt ≤ 2049 from by first | exact g3 | omega) (show (cf7 33).toInt = (cf7 33).toInt from rfl) (show 0 ≤ (cf7 33).toInt from by first | exact oz_9921a0d148 e12 k9_15 g4 | omega) (show (cf7 48).toInt = (cf7 48).toInt from rfl) (show (cf7 38).toInt = nf from by first | exact oz_e13fc83238 g9 e13 k9_3 | omega) (show 0 ≤ nf from by first | exact g10 | omega) (show 0 ≤ (cf7 46).toInt from by first | exact oz_e2fef14871 e15 k9_7 g12 | omega) (show (cf7 46).toInt ≤ 1 from by first | exact oz_916d756328 e15 k9_7 g13 | omega) (show 0 ≤ (cf7 47).toInt from by first | exact oz_e2fef14871 e16 k9_8 g14 | omega) (show (cf7 47).toInt ≤ 1 from by first | exact oz_916d756328 e16 k9_8 g15 | omega) htk (FsI.le (N' := (pf 13).toInt) hfs (by omega)) hwr (KnT.eq hkt (by omega)) (FnT.eq hft (by omega)) (KnS.eq hks (by omega) (by omega)) hfp han hec_z62 (by first | assumption | omega) _) hT (pr := []) (pcs := [wdP cs h r g tf ta pf na ma_9 wa cf7 ca_9 ef ea xf xa]) hw (oX_call (P := (fun A U H => (oP A g U H))) (pr := []) oG_P hw hA hP) (px_recv hT hw 0 0 rfl rfl rfl) m12_237 m12_234 m12_236 ms_12_12 m1_21 q_Mpg_checkConstant ⟨show (4 * d + 18) + 1 ≤ (4 * d + 20) from (by first | exact oz_806aa97e85 | omega), show 8 + (5 + 11) + (200 * d + 640) ≤ (200 * d + 720) from (by first | exact oz_8307cc973d | omega)⟩ hl.1 rfl (Nat.le_of_ble_eq_true rfl) d_Mpg_checkEnum_39 ⟨Nat.le_of_ble_eq_true rfl, Nat.le_of_ble_eq_true rfl⟩) hw hA (fun v68 p67 H locs hp67 hw => ?_))
          obtain ⟨ma65, cf66, rfl, e69, e70, e71, e72, e73, e74, e75, e76, e77, e78, e79, e80⟩ := hp67
          have e69 : KpE cf7 cf66 := e69
          have hkz_e69 := e69.2
          have hkk37_e69 : (cf66 37).toInt = (cf7 37).toInt := (by rw [e69.1 37 (by decide) (by decide) (by decide) (by decide) (by decide)] <;> rfl)
          have hkk43_e69 : (cf66 43).toInt = (cf7 43).toInt := (by rw [e69.1 43 (by decide) (by decide) (by decide) (by decide) (by decide)] <;> rfl)
          have hkk44_e69 : (cf66 44).toInt = (cf7 44).toInt := (by rw [e69.1 44 (by decide) (by decide) (by decide) (by decide) (by decide)] <;> rfl)
          have hkk45_e69 : (cf66 45).toInt = (cf7 45).toInt := (by rw [e69.1 45 (by decide) (by decide) (by decide) (by decide) (by decide)] <;> rfl)
          have hkk41_e69 : (cf66 41).toInt = (cf7 41).toInt := (by rw [e69.1 41 (by decide) (by decide) (by decide) (by decide) (by decide)] <;> rfl)
          have hkk55_e69 : (cf66 55).toInt = (cf7 55).toInt := (by rw [e69.1 55 (by decide) (by decide) (by decide) (by decide) (by decide)] <;> rfl)
          have hkk59_e69 : (cf66 59).toInt = (cf7 59).toInt := (by rw [e69.1 59 (by decide) (by decide) (by decide) (by decide) (by decide)] <;> rfl)
          have hkk42_e69 : (cf66 42).toInt = (cf7 42).toInt := (by rw [e69.1 42 (by decide) (by decide) (by decide) (by decide) (by decide)] <;> rfl)
          have hkk54_e69 : (cf66 54).toInt = (cf7 54).toInt := (by rw [e69.1 54 (by decide) (by decide) (by decide) (by decide) (by decide)] <;> rfl)
          have hkk58_e69 : (cf66 58).toInt = (cf7 58).toInt := (by rw [e69.1 58 (by decide) (by decide) (by decide) (by decide) (by decide)] <;> rfl)
          have e70 : WrV cf66 (tf 6).toInt := e70
          have hwr := e70
          have hw0_e70 := hwr.1
          have e71 : (cf66 33).toInt = (cf7 33).toInt := e71
          have e72 : (cf66 38).toInt = (cf7 38).toInt := e72
          have e73 : (cf66 48).toInt = (cf7 48).toInt := e73
          have e74 : (cf66 46).toInt = (cf7 46).toInt := e74
          have e75 : (cf66 47).toInt = (cf7 47).toInt := e75
          have e76 : Ann na ma0 ma65 := e76
          have han := e76
          have e77 : FrC (x9_3.toInt + 1) md3 ma_9 ma65 := e77
          have hfc := hfc.tr e77 (by omega) (by omega)
          have e78 := z_rng e78
          have e79 : v68.toInt = 0 → 1 ≤ (cf66 30).toInt := e79
          have e80 : R_mp_checkConstant tf ta na ca_9 z62 ma_9 cf7 ma65 cf66 v68 := e80
          have lv68 := Int32.le_toInt v68
          have uv68 := Int32.toInt_lt v68
          refine lv_if_eq (tgt := 50) S.x S.b d_Mpg_checkEnum_42 (by decide) (fun c81 => ?_) (fun c81 => ?_)
          · have nc81 : v68.toInt = (0 : Int) := (i_eq (x := v68) (y := 0)).mp c81
            refine lv_aload_n S.x S.b d_Mpg_checkEnum_50 rfl (lv_at hl 0 rfl) ?_
            refine gP_18 S hT hw 0 rfl m10_3 d_Mpg_checkEnum_51 ?_
            refine lv_iload_n S.x S.b d_Mpg_checkEnum_54 rfl (lv_at hl 3 rfl) ?_
            refine lv_iload_n S.x S.b d_Mpg_checkEnum_55 rfl (lv_at hl 2 rfl) ?_
            refine px_iast S hT hw 0 14 (n := 2100) (f := (ma65 18)) (x := x9_3) (y := x9_2) rfl gp_18 (vp_in_iff.mpr (by constructor <;> omega)) d_Mpg_checkEnum_56 (w' := wdP cs h r g tf ta pf na (va_up ma65 18 (upd (ma65 18) x9_3.toNatClampNeg x9_2)) wa cf66 ca_9 ef ea xf xa) (ps' := [wdP cs h r g tf ta pf na (va_up ma65 18 (upd (ma65 18) x9_3.toNatClampNeg x9_2)) wa cf66 ca_9 ef ea xf xa]) sp_18 rfl (fun H locs hw => ?_)
            obtain ⟨ma83, hu_ma83⟩ : ∃ y : Nat → Nat → Int32, y = va_up ma65 18 (upd (ma65 18) x9_3.toNatClampNeg x9_2) := ⟨_, rfl⟩
            have hw : pw D A s.heap _ _ [wdP cs h r g tf ta pf na ma83 wa cf66 ca_9 ef ea xf xa] := (by rw [hu_ma83]; exact hw)
            have hf1_ma83 : FrC x9_3.toInt (x9_3.toInt + 1) ma65 ma83 := (by rw [hu_ma83]; exact FrC.w FrC.rf (by omega) (by omega) (by omega))
            have han : Ann na ma0 ma83 := (by rw [hu_ma83]; exact Ann.w18 han (by omega))
            have hfc := hfc.tr hf1_ma83 (by omega) (by omega)
            have hv_18_x9_3 : ma83 18 x9_3.toNatClampNeg = x9_2 := (by rw [hu_ma83, va_up_s, pk_us])
            have hnhv_18_x9_3 : (ma83 18 x9_3.toNatClampNeg).toInt = x9_2.toInt := (by rw [hv_18_x9_3])
            refine lv_aload_n S.x S.b d_Mpg_checkEnum_57 rfl (lv_at hl 0 rfl) ?_
            refine lv_aload_n S.x S.b d_Mpg_checkEnum_58 rfl (lv_at hl 0 rfl) ?_
            refine gP_15 S hT hw 0 rfl m9_239 d_Mpg_checkEnum_59 ?_
            refine lv_iload_n S.x S.b d_Mpg_checkEnum_62 rfl (lv_at hl 3 rfl) ?_
            refine px_iald S hT hw 0 11 (n := 2100) (f := (na 15)) rfl gp_15 (x := x9_3) (vp_in_iff.mpr (by constructor <;> omega)) d_Mpg_checkEnum_63 ?_
            refine lv_topi (fun z84 ez84 => ?_)
            have lz84 := Int32.le_toInt z84
            have uz84 := Int32.toInt_lt z84
            have rz84 := CoV.tok hco_x9_3 ez84
            refine lv_iconst (v := 4) S.x S.b d_Mpg_checkEnum_64 (by decide) ?_
            refine lv_iload_n S.x S.b d_Mpg_checkEnum_65 rfl (lv_at hl 2 rfl) ?_
            refine lv_iconst (v := (-1)) S.x S.b d_Mpg_checkEnum_66 (by decide) ?_
            first | refine px_callv (pr := []) (px_runV (As := [.int z84, .int 4, .int x9_2, .int (-1)]) (rest := []) S (c_mp_know l D cs h r g tf ta pf na ma83 wa ef ea xf xa cf66 ca_9 z84 4 x9_2 (-1)  (show 0 ≤ (cf66 33).toInt from (oz_9bcc310e9c e71 e12 k9_15 g4)) (show (cf66 33).toInt < 1100 from (oz_75b62dc8f3 e71 e12 k9_16 g6 k9_24)) htk _) hT (pr := []) (pcs := [wdP cs h r g tf ta pf na ma83 wa cf66 ca_9 ef ea xf xa]) hw px_X.tt (px_recv hT hw 0 0 rfl rfl rfl) m12_193 m12_190 m12_192 ms_12_1 m1_21 q_Mpg_know ⟨show 0 + 1 ≤ (4 * d + 20) from (oz_8385159a22), show 8 + (5 + 11) + 0 ≤ (200 * d + 720) from (oz_3041b526ac)⟩ hl.1 rfl (Nat.le_of_ble_eq_true rfl) d_Mpg_checkEnum_67 ⟨Nat.le_of_ble_eq_true rfl, Nat.le_of_ble_eq_true rfl⟩) hw hA (fun p89 H locs hp89 hw => ?_) | (refine px_callv (pr := []) (px_runV (As := [.int z84, .int 4, .int x9_2, .int (-1)]) (rest := []) S (c_mp_know l D cs h r g tf ta pf na ma83 wa ef ea xf xa cf66 ca_9 z84 4 x9_2 (-1)  (show 0 ≤ (cf66 33).toInt from by first | exact oz_9bcc310e9c e71 e12 k9_15 g4 | omega) (show (cf66 33).toInt < 1100 from by first | exact oz_75b62dc8f3 e71 e12 k9_16 g6 k9_24 | omega) htk _) hT (pr := []) (pcs := [wdP cs h r g tf ta pf na ma83 wa cf66 ca_9 ef ea xf xa]) hw px_X.tt (px_recv hT hw 0 0 rfl rfl rfl) m12_193 m12_190 m12_192 ms_12_1 m1_21 q_Mpg_know ⟨show 0 + 1 ≤ (4 * d + 20) from (by first | exact oz_8385159a22 | omega), show 8 + (5 + 11) + 0 ≤ (200 * d + 720) from (by first | exact oz_3041b526ac | omega)⟩ hl.1 rfl (Nat.le_of_ble_eq_true rfl) d_Mpg_checkEnum_67 ⟨Nat.le_of_ble_eq_true rfl, Nat.le_of_ble_eq_true rfl⟩) hw hA (fun p89 H locs hp89 hw => ?_))
            obtain ⟨cf87, ca88, rfl, e91, e92, e93, e94, e95, e96, e97, e98, e99, e100, e101, e102, e103, e104, e105, e106, e107, e108, e109, e110⟩ := hp89
            have e91 : (cf87 33).toInt = (cf66 33).toInt + 1 := e91
            have e92 : (cf87 30).toInt = (cf66 30).toInt := e92
            have e93 : (cf87 31).toInt = (cf66 31).toInt := e93
            have e94 : (cf87 37).toInt = (cf66 37).toInt := e94
            have e95 : (cf87 38).toInt = (cf66 38).toInt := e95
            have e96 : (cf87 41).toInt = (cf66 41).toInt := e96
            have e97 : (cf87 42).toInt = (cf66 42).toInt := e97
            have e98 : (cf87 43).toInt = (cf66 43).toInt := e98
            have e99 : (cf87 44).toInt = (cf66 44).toInt := e99
            have e100 : (cf87 45).toInt = (cf66 45).toInt := e100
            have e101 : (cf87 46).toInt = (cf66 46).toInt := e101
            have e102 : (cf87 47).toInt = (cf66 47).toInt := e102
            have e103 : (cf87 48).toInt = (cf66 48).toInt := e103
            have e104 : (cf87 54).toInt = (cf66 54).toInt := e104
            have e105 : (cf87 55).toInt = (cf66 55).toInt := e105
            have e106 : (cf87 57).toInt = (cf66 57).toInt := e106
            have e107 : (cf87 58).toInt = (cf66 58).toInt := e107
            have e108 : (cf87 59).toInt = (cf66 59).toInt := e108
            have e109 : KwU ca_9 ca88 (cf66 33) z84 (4 : Int32) x9_2 (-1 : Int32) := e109
            have hcw_e109 : CaG ca_9 ca88 (cf66 33).toInt (cf87 48).toInt := cag_kw e109 (by omega) (by omega)
            have hkt : KnT (tf 6).toInt ca88 (cf87 33).toInt := KnT.eq (KnT.kw (KnT.eq hkt (n' := (cf66 33).toInt) (by omega)) e109 rfl (by omega) (by omega) ⟨by omega, by omega⟩) (by omega)
            have hks : KnS ca88 (cf87 33).toInt (cf87 48).toInt ys := KnS.eq (KnS.kw (KnS.eq hks (n' := (cf66 33).toInt) (by omega) rfl) e109 rfl (by omega) (Or.inr (Or.inr ⟨by omega, by decide⟩))) (by omega) (by omega)
            have hcg := hcg.tr hcw_e109 (by omega) (by omega)
            have hft := hft.cg hcw_e109
            have hfp := hfp.cg hcw_e109
            have hsr := hsr.cg hcw_e109 (by omega)
            have e110 : R_mp_know z84 (4 : Int32) x9_2 (-1 : Int32) cf66 ca_9 cf87 ca88 := e110
            have hwr : WrV cf87 (tf 6).toInt := WrV.eq hwr (by omega) (by omega)
            obtain ⟨z111, ez111⟩ : ∃ y : Int32, y = x9_2 + 1 := ⟨_, rfl⟩
            have tz111 : z111.toInt = (x9_2.toInt + 1 + 2147483648) % 4294967296 - 2147483648 := by rw [ez111]; exact i_add x9_2 1
            have lz111 := Int32.le_toInt z111
            have uz111 := Int32.toInt_lt z111
            try replace tz111 : z111.toInt = x9_2.toInt + 1 := by omega
            refine lv_iinc (v := z111) (lv' := [(2, .int z111), (0, .ref h), (1, .int p0), (3, .int x9_3)]) S.x S.b d_Mpg_checkEnum_70 hl (k := 2) rfl (by rw [ez111]; rfl) (by decide) rfl (fun ls hl => ?_)
            refine lv_aload_n S.x S.b d_Mpg_checkEnum_73 rfl (lv_at hl 1 rfl) ?_
            refine gP_21 S hT hw 0 rfl m10_7 d_Mpg_checkEnum_74 ?_
            refine lv_iload_n S.x S.b d_Mpg_checkEnum_77 rfl (lv_at hl 3 rfl) ?_
            refine px_iald S hT hw 0 17 (n := 2100) (f := (na 21)) rfl gp_21 (x := x9_3) (vp_in_iff.mpr (by constructor <;> omega)) d_Mpg_checkEnum_78 ?_
            refine lv_topi (fun z112 ez112 => ?_)
            have lz112 := Int32.le_toInt z112
            have uz112 := Int32.toInt_lt z112
            refine lv_istore_n (lv' := [(3, .int z112), (2, .int z111), (0, .ref h), (1, .int p0)]) S.x S.b d_Mpg_checkEnum_79 rfl hl (by decide) rfl (fun ls hl => ?_)
            refine lv_goto (tgt := 9) S.x S.b d_Mpg_checkEnum_80 (by decide) ?_
            first | exact ih9 ma83 cf87 ca88 md3 (wr_9 - wv4) z111 z112 _ _ ls (show (cf87 30).toInt = 0 → (cf 30).toInt = 0 from by omega) (show WrV cf87 (tf 6).toInt from hwr) (show (cf87 37).toInt = (cf 37).toInt from (oz_ff3084e3c1 k9_2 e94 e18 hkk37_e69)) (show (cf87 38).toInt = (cf 38).toInt from (oz_ff3084e3c1 k9_3 e95 e13 e72)) (show (cf87 43).toInt = (cf 43).toInt from (oz_ff3084e3c1 k9_4 e98 e20 hkk43_e69)) (show (cf87 44).toInt = (cf 44).toInt from (oz_ff3084e3c1 k9_5 e99 e21 hkk44_e69)) (show (cf87 45).toInt = (cf 45).toInt from (oz_ff3084e3c1 k9_6 e100 e22 hkk45_e69)) (show (cf87 46).toInt = (cf 46).toInt from (oz_ff3084e3c1 k9_7 e101 e15 e74)) (show (cf87 47).toInt = (cf 47).toInt from (oz_ff3084e3c1 k9_8 e102 e16 e75)) (show (cf87 41).toInt = (cf 41).toInt from (oz_ff3084e3c1 k9_9 e96 e27 hkk41_e69)) (show (cf87 55).toInt = (cf 55).toInt from (oz_ff3084e3c1 k9_10 e105 e24 hkk55_e69)) (show (cf87 48).toInt = (cf 48).toInt from (oz_ff3084e3c1 k9_11 e103 e14 e73)) (show (cf87 42).toInt = (cf 42).toInt from (oz_ff3084e3c1 k9_12 e97 e19 hkk42_e69)) (show (cf87 54).toInt = (cf 54).toInt from (oz_ff3084e3c1 k9_13 e104 e23 hkk54_e69)) (show (cf87 59).toInt = (cf 59).toInt from (oz_ff3084e3c1 k9_14 e108 e26 hkk59_e69)) (show (cf 33).toInt ≤ (cf87 33).toInt from (oz_6e66b3a32a k9_15 e91 e12 e71)) (show 6 * (cf87 33).toInt ≤ 6 * (cf 33).toInt + (w - (wr_9 - wv4)) from by omega) (show KnT (tf 6).toInt ca88 (cf87 33).toInt from (KnT.eq hkt (by omega))) (show KnS ca88 (cf87 33).toInt (cf87 48).toInt ys from (KnS.eq hks (by omega) (by omega))) (show CaG ca ca88 (cf 33).toInt (cf 48).toInt from (hcg.le (by omega) (by omega))) (show Ann na ma0 ma83 from han) (show FrC lo hi ma ma83 from hfc) (show p0.toInt + 1 ≤ md3 from by omega) (show md3 ≤ hi from hm2_md3) (show 0 ≤ (wr_9 - wv4) from by omega) (show (wr_9 - wv4) ≤ w from by omega) (show RvO ta (tf 6).toInt na ma0 d md3 hi (wr_9 - wv4) z112 from (by rw [ez112]; exact hro2)) (show K_mp_checkEnum_9 tf ta na p0 ma cf ca ma83 cf87 ca88 z111 z112 from (fun y_f0 y_f1 y_f2 k hE => k9_27 y_f0 y_f1 y_f2 (k + 1) (Or.inr (Or.inl ⟨rfl, x9_2, x9_3, rfl, rfl, rfl, rfl, rfl, Or.inr ⟨nc1, z5, ez5, cf7, e28, z29, ez29, Or.inr ⟨nc30, z62, ez62, ma65, cf66, v68, e80, Or.inl ⟨nc81, ma83, hu_ma83, z84, ez84, cf87, ca88, e110, z111, ez111, z112, ez112, hE⟩⟩⟩⟩)))) (show hi - md3 < (n_9 : Int) from by omega) hw (lv_sub hl [2, 3, 1, 0] rfl) | (exact ih9 ma83 cf87 ca88 md3 (wr_9 - wv4) z111 z112 _ _ ls (show (cf87 30).toInt = 0 → (cf 30).toInt = 0 from by omega) (show WrV cf87 (tf 6).toInt from hwr) (show (cf87 37).toInt = (cf 37).toInt from by first | exact oz_ff3084e3c1 k9_2 e94 e18 hkk37_e69 | omega) (show (cf87 38).toInt = (cf 38).toInt from by first | exact oz_ff3084e3c1 k9_3 e95 e13 e72 | omega) (show (cf87 43).toInt = (cf 43).toInt from by first | exact oz_ff3084e3c1 k9_4 e98 e20 hkk43_e69 | omega) (show (cf87 44).toInt = (cf 44).toInt from by first | exact oz_ff3084e3c1 k9_5 e99 e21 hkk44_e69 | omega) (show (cf87 45).toInt = (cf 45).toInt from by first | exact oz_ff3084e3c1 k9_6 e100 e22 hkk45_e69 | omega) (show (cf87 46).toInt = (cf 46).toInt from by first | exact oz_ff3084e3c1 k9_7 e101 e15 e74 | omega) (show (cf87 47).toInt = (cf 47).toInt from by first | exact oz_ff3084e3c1 k9_8 e102 e16 e75 | omega) (show (cf87 41).toInt = (cf 41).toInt from by first | exact oz_ff3084e3c1 k9_9 e96 e27 hkk41_e69 | omega) (show (cf87 55).toInt = (cf 55).toInt from by first | exact oz_ff3084e3c1 k9_10 e105 e24 hkk55_e69 | omega) (show (cf87 48).toInt = (cf 48).toInt from by first | exact oz_ff3084e3c1 k9_11 e103 e14 e73 | omega) (show (cf87 42).toInt = (cf 42).toInt from by first | exact oz_ff3084e3c1 k9_12 e97 e19 hkk42_e69 | omega) (show (cf87 54).toInt = (cf 54).toInt from by first | exact oz_ff3084e3c1 k9_13 e104 e23 hkk54_e69 | omega) (show (cf87 59).toInt = (cf 59).toInt from by first | exact oz_ff3084e3c1 k9_14 e108 e26 hkk59_e69 | omega) (show (cf 33).toInt ≤ (cf87 33).toInt from by first | exact oz_6e66b3a32a k9_15 e91 e12 e71 | omega) (show 6 * (cf87 33).toInt ≤ 6 * (cf 33).toInt + (w - (wr_9 - wv4)) from by omega) (show KnT (tf 6).toInt ca88 (cf87 33).toInt from (KnT.eq hkt (by omega))) (show KnS ca88 (cf87 33).toInt (cf87 48).toInt ys from (KnS.eq hks (by omega) (by omega))) (show CaG ca ca88 (cf 33).toInt (cf 48).toInt from (hcg.le (by omega) (by omega))) (show Ann na ma0 ma83 from han) (show FrC lo hi ma ma83 from hfc) (show p0.toInt + 1 ≤ md3 from by omega) (show md3 ≤ hi from by first | exact hm2_md3 | omega) (show 0 ≤ (wr_9 - wv4) from by omega) (show (wr_9 - wv4) ≤ w from by omega) (show RvO ta (tf 6).toInt na ma0 d md3 hi (wr_9 - wv4) z112 from (by rw [ez112]; exact hro2)) (show K_mp_checkEnum_9 tf ta na p0 ma cf ca ma83 cf87 ca88 z111 z112 from (fun y_f0 y_f1 y_f2 k hE => k9_27 y_f0 y_f1 y_f2 (k + 1) (Or.inr (Or.inl ⟨rfl, x9_2, x9_3, rfl, rfl, rfl, rfl, rfl, Or.inr ⟨nc1, z5, ez5, cf7, e28, z29, ez29, Or.inr ⟨nc30, z62, ez62, ma65, cf66, v68, e80, Or.inl ⟨nc81, ma83, hu_ma83, z84, ez84, cf87, ca88, e110, z111, ez111, z112, ez112, hE⟩⟩⟩⟩)))) (show hi - md3 < (n_9 : Int) from by omega) hw (lv_sub hl [2, 3, 1, 0] rfl))
          · have nc81 : ¬ v68.toInt = (0 : Int) := mt (i_eq (x := v68) (y := 0)).mpr c81
            refine lv_aload_n S.x S.b d_Mpg_checkEnum_45 rfl (lv_at hl 0 rfl) ?_
            refine gP_57 (v := (cf66 57)) S hT hw 0 rfl rfl m10_54 d_Mpg_checkEnum_46 ?_
            refine lv_istore_n (lv' := [(2, .int (cf66 57)), (0, .ref h), (1, .int p0), (3, .int x9_3)]) S.x S.b d_Mpg_checkEnum_49 rfl hl (by decide) rfl (fun ls hl => ?_)
            refine lv_aload_n S.x S.b d_Mpg_checkEnum_50 rfl (lv_at hl 1 rfl) ?_
            refine gP_18 S hT hw 0 rfl m10_3 d_Mpg_checkEnum_51 ?_
            refine lv_iload_n S.x S.b d_Mpg_checkEnum_54 rfl (lv_at hl 3 rfl) ?_
            refine lv_iload_n S.x S.b d_Mpg_checkEnum_55 rfl (lv_at hl 0 rfl) ?_
            refine px_iast S hT hw 0 14 (n := 2100) (f := (ma65 18)) (x := x9_3) (y := (cf66 57)) rfl gp_18 (vp_in_iff.mpr (by constructor <;> omega)) d_Mpg_checkEnum_56 (w' := wdP cs h r g tf ta pf na (va_up ma65 18 (upd (ma65 18) x9_3.toNatClampNeg (cf66 57))) wa cf66 ca_9 ef ea xf xa) (ps' := [wdP cs h r g tf ta pf na (va_up ma65 18 (upd (ma65 18) x9_3.toNatClampNeg (cf66 57))) wa cf66 ca_9 ef ea xf xa]) sp_18 rfl (fun H locs hw => ?_)
            obtain ⟨ma113, hu_ma113⟩ : ∃ y : Nat → Nat → Int32, y = va_up ma65 18 (upd (ma65 18) x9_3.toNatClampNeg (cf66 57)) := ⟨_, rfl⟩
            have hw : pw D A s.heap _ _ [wdP cs h r g tf ta pf na ma113 wa cf66 ca_9 ef ea xf xa] := (by rw [hu_ma113]; exact hw)
            have hf1_ma113 : FrC x9_3.toInt (x9_3.toInt + 1) ma65 ma113 := (by rw [hu_ma113]; exact FrC.w FrC.rf (by omega) (by omega) (by omega))
            have han : Ann na ma0 ma113 := (by rw [hu_ma113]; exact Ann.w18 han (by omega))
            have hfc := hfc.tr hf1_ma113 (by omega) (by omega)
            have hv_18_x9_3 : ma113 18 x9_3.toNatClampNeg = (cf66 57) := (by rw [hu_ma113, va_up_s, pk_us])
            have hnhv_18_x9_3 : (ma113 18 x9_3.toNatClampNeg).toInt = (cf66 57).toInt := (by rw [hv_18_x9_3])
            refine lv_aload_n S.x S.b d_Mpg_checkEnum_57 rfl (lv_at hl 1 rfl) ?_
            refine lv_aload_n S.x S.b d_Mpg_checkEnum_58 rfl (lv_at hl 1 rfl) ?_
            refine gP_15 S hT hw 0 rfl m9_239 d_Mpg_checkEnum_59 ?_
            refine lv_iload_n S.x S.b d_Mpg_checkEnum_62 rfl (lv_at hl 3 rfl) ?_
            refine px_iald S hT hw 0 11 (n := 2100) (f := (na 15)) rfl gp_15 (x := x9_3) (vp_in_iff.mpr (by constructor <;> omega)) d_Mpg_checkEnum_63 ?_
            refine lv_topi (fun z114 ez114 => ?_)
            have lz114 := Int32.le_toInt z114
            have uz114 := Int32.toInt_lt z114
            have rz114 := CoV.tok hco_x9_3 ez114
            refine lv_iconst (v := 4) S.x S.b d_Mpg_checkEnum_64 (by decide) ?_
            refine lv_iload_n S.x S.b d_Mpg_checkEnum_65 rfl (lv_at hl 0 rfl) ?_
            refine lv_iconst (v := (-1)) S.x S.b d_Mpg_checkEnum_66 (by decide) ?_
            first | refine px_callv (pr := []) (px_runV (As := [.int z114, .int 4, .int (cf66 57), .int (-1)]) (rest := []) S (c_mp_know l D cs h r g tf ta pf na ma113 wa ef ea xf xa cf66 ca_9 z114 4 (cf66 57) (-1)  (show 0 ≤ (cf66 33).toInt from (oz_9bcc310e9c e71 e12 k9_15 g4)) (show (cf66 33).toInt < 1100 from (oz_75b62dc8f3 e71 e12 k9_16 g6 k9_24)) htk _) hT (pr := []) (pcs := [wdP cs h r g tf ta pf na ma113 wa cf66 ca_9 ef ea xf xa]) hw px_X.tt (px_recv hT hw 0 0 rfl rfl rfl) m12_193 m12_190 m12_192 ms_12_1 m1_21 q_Mpg_know ⟨show 0 + 1 ≤ (4 * d + 20) from (oz_8385159a22), show 8 + (5 + 11) + 0 ≤ (200 * d + 720) from (oz_3041b526ac)⟩ hl.1 rfl (Nat.le_of_ble_eq_true rfl) d_Mpg_checkEnum_67 ⟨Nat.le_of_ble_eq_true rfl, Nat.le_of_ble_eq_true rfl⟩) hw hA (fun p119 H locs hp119 hw => ?_) | (refine px_callv (pr := []) (px_runV (As := [.int z114, .int 4, .int (cf66 57), .int (-1)]) (rest := []) S (c_mp_know l D cs h r g tf ta pf na ma113 wa ef ea xf xa cf66 ca_9 z114 4 (cf66 57) (-1)  (show 0 ≤ (cf66 33).toInt from by first | exact oz_9bcc310e9c e71 e12 k9_15 g4 | omega) (show (cf66 33).toInt < 1100 from by first | exact oz_75b62dc8f3 e71 e12 k9_16 g6 k9_24 | omega) htk _) hT (pr := []) (pcs := [wdP cs h r g tf ta pf na ma113 wa cf66 ca_9 ef ea xf xa]) hw px_X.tt (px_recv hT hw 0 0 rfl rfl rfl) m12_193 m12_190 m12_192 ms_12_1 m1_21 q_Mpg_know ⟨show 0 + 1 ≤ (4 * d + 20) from (by first | exact oz_8385159a22 | omega), show 8 + (5 + 11) + 0 ≤ (200 * d + 720) from (by first | exact oz_3041b526ac | omega)⟩ hl.1 rfl (Nat.le_of_ble_eq_true rfl) d_Mpg_checkEnum_67 ⟨Nat.le_of_ble_eq_true rfl, Nat.le_of_ble_eq_true rfl⟩) hw hA (fun p119 H locs hp119 hw => ?_))
            obtain ⟨cf117, ca118, rfl, e121, e122, e123, e124, e125, e126, e127, e128, e129, e130, e131, e132, e133, e134, e135, e136, e137, e138, e139, e140⟩ := hp119
            have e121 : (cf117 33).toInt = (cf66 33).toInt + 1 := e121
            have e122 : (cf117 30).toInt = (cf66 30).toInt := e122
            have e123 : (cf117 31).toInt = (cf66 31).toInt := e123
            have e124 : (cf117 37).toInt = (cf66 37).toInt := e124
            have e125 : (cf117 38).toInt = (cf66 38).toInt := e125
            have e126 : (cf117 41).toInt = (cf66 41).toInt := e126
            have e127 : (cf117 42).toInt = (cf66 42).toInt := e127
            have e128 : (cf117 43).toInt = (cf66 43).toInt := e128
            have e129 : (cf117 44).toInt = (cf66 44).toInt := e129
            have e130 : (cf117 45).toInt = (cf66 45).toInt := e130
            have e131 : (cf117 46).toInt = (cf66 46).toInt := e131
            have e132 : (cf117 47).toInt = (cf66 47).toInt := e132
            have e133 : (cf117 48).toInt = (cf66 48).toInt := e133
            have e134 : (cf117 54).toInt = (cf66 54).toInt := e134
            have e135 : (cf117 55).toInt = (cf66 55).toInt := e135
            have e136 : (cf117 57).toInt = (cf66 57).toInt := e136
            have e137 : (cf117 58).toInt = (cf66 58).toInt := e137
            have e138 : (cf117 59).toInt = (cf66 59).toInt := e138
            have e139 : KwU ca_9 ca118 (cf66 33) z114 (4 : Int32) (cf66 57) (-1 : Int32) := e139
            have hcw_e139 : CaG ca_9 ca118 (cf66 33).toInt (cf117 48).toInt := cag_kw e139 (by omega) (by omega)
            have hkt : KnT (tf 6).toInt ca118 (cf117 33).toInt := KnT.eq (KnT.kw (KnT.eq hkt (n' := (cf66 33).toInt) (by omega)) e139 rfl (by omega) (by omega) ⟨by omega, by omega⟩) (by omega)
            have hks : KnS ca118 (cf117 33).toInt (cf117 48).toInt ys := KnS.eq (KnS.kw (KnS.eq hks (n' := (cf66 33).toInt) (by omega) rfl) e139 rfl (by omega) (Or.inr (Or.inr ⟨by omega, by decide⟩))) (by omega) (by omega)
            have hcg := hcg.tr hcw_e139 (by omega) (by omega)
            have hft := hft.cg hcw_e139
            have hfp := hfp.cg hcw_e139
            have hsr := hsr.cg hcw_e139 (by omega)
            have e140 : R_mp_know z114 (4 : Int32) (cf66 57) (-1 : Int32) cf66 ca_9 cf117 ca118 := e140
            have hwr : WrV cf117 (tf 6).toInt := WrV.eq hwr (by omega) (by omega)
            obtain ⟨z141, ez141⟩ : ∃ y : Int32, y = (cf66 57) + 1 := ⟨_, rfl⟩
            have tz141 : z141.toInt = ((cf66 57).toInt + 1 + 2147483648) % 4294967296 - 2147483648 := by rw [ez141]; exact i_add (cf66 57) 1
            have lz141 := Int32.le_toInt z141
            have uz141 := Int32.toInt_lt z141
            try replace tz141 : z141.toInt = (cf66 57).toInt + 1 := by omega
            refine lv_iinc (v := z141) (lv' := [(2, .int z141), (0, .ref h), (1, .int p0), (3, .int x9_3)]) S.x S.b d_Mpg_checkEnum_70 hl (k := 0) rfl (by rw [ez141]; rfl) (by decide) rfl (fun ls hl => ?_)
            refine lv_aload_n S.x S.b d_Mpg_checkEnum_73 rfl (lv_at hl 1 rfl) ?_
            refine gP_21 S hT hw 0 rfl m10_7 d_Mpg_checkEnum_74 ?_
            refine lv_iload_n S.x S.b d_Mpg_checkEnum_77 rfl (lv_at hl 3 rfl) ?_
            refine px_iald S hT hw 0 17 (n := 2100) (f := (na 21)) rfl gp_21 (x := x9_3) (vp_in_iff.mpr (by constructor <;> omega)) d_Mpg_checkEnum_78 ?_
            refine lv_topi (fun z142 ez142 => ?_)
            have lz142 := Int32.le_toInt z142
            have uz142 := Int32.toInt_lt z142
            refine lv_istore_n (lv' := [(3, .int z142), (2, .int z141), (0, .ref h), (1, .int p0)]) S.x S.b d_Mpg_checkEnum_79 rfl hl (by decide) rfl (fun ls hl => ?_)
            refine lv_goto (tgt := 9) S.x S.b d_Mpg_checkEnum_80 (by decide) ?_
            first | exact ih9 ma113 cf117 ca118 md3 (wr_9 - wv4) z141 z142 _ _ ls (show (cf117 30).toInt = 0 → (cf 30).toInt = 0 from by omega) (show WrV cf117 (tf 6).toInt from hwr) (show (cf117 37).toInt = (cf 37).toInt from (oz_ff3084e3c1 k9_2 e124 e18 hkk37_e69)) (show (cf117 38).toInt = (cf 38).toInt from (oz_ff3084e3c1 k9_3 e125 e13 e72)) (show (cf117 43).toInt = (cf 43).toInt from (oz_ff3084e3c1 k9_4 e128 e20 hkk43_e69)) (show (cf117 44).toInt = (cf 44).toInt from (oz_ff3084e3c1 k9_5 e129 e21 hkk44_e69)) (show (cf117 45).toInt = (cf 45).toInt from (oz_ff3084e3c1 k9_6 e130 e22 hkk45_e69)) (show (cf117 46).toInt = (cf 46).toInt from (oz_ff3084e3c1 k9_7 e131 e15 e74)) (show (cf117 47).toInt = (cf 47).toInt from (oz_ff3084e3c1 k9_8 e132 e16 e75)) (show (cf117 41).toInt = (cf 41).toInt from (oz_ff3084e3c1 k9_9 e126 e27 hkk41_e69)) (show (cf117 55).toInt = (cf 55).toInt from (oz_ff3084e3c1 k9_10 e135 e24 hkk55_e69)) (show (cf117 48).toInt = (cf 48).toInt from (oz_ff3084e3c1 k9_11 e133 e14 e73)) (show (cf117 42).toInt = (cf 42).toInt from (oz_ff3084e3c1 k9_12 e127 e19 hkk42_e69)) (show (cf117 54).toInt = (cf 54).toInt from (oz_ff3084e3c1 k9_13 e134 e23 hkk54_e69)) (show (cf117 59).toInt = (cf 59).toInt from (oz_ff3084e3c1 k9_14 e138 e26 hkk59_e69)) (show (cf 33).toInt ≤ (cf117 33).toInt from (oz_6e66b3a32a k9_15 e121 e12 e71)) (show 6 * (cf117 33).toInt ≤ 6 * (cf 33).toInt + (w - (wr_9 - wv4)) from by omega) (show KnT (tf 6).toInt ca118 (cf117 33).toInt from (KnT.eq hkt (by omega))) (show KnS ca118 (cf117 33).toInt (cf117 48).toInt ys from (KnS.eq hks (by omega) (by omega))) (show CaG ca ca118 (cf 33).toInt (cf 48).toInt from (hcg.le (by omega) (by omega))) (show Ann na ma0 ma113 from han) (show FrC lo hi ma ma113 from hfc) (show p0.toInt + 1 ≤ md3 from by omega) (show md3 ≤ hi from hm2_md3) (show 0 ≤ (wr_9 - wv4) from by omega) (show (wr_9 - wv4) ≤ w from by omega) (show RvO ta (tf 6).toInt na ma0 d md3 hi (wr_9 - wv4) z142 from (by rw [ez142]; exact hro2)) (show K_mp_checkEnum_9 tf ta na p0 ma cf ca ma113 cf117 ca118 z141 z142 from (fun y_f0 y_f1 y_f2 k hE => k9_27 y_f0 y_f1 y_f2 (k + 1) (Or.inr (Or.inl ⟨rfl, x9_2, x9_3, rfl, rfl, rfl, rfl, rfl, Or.inr ⟨nc1, z5, ez5, cf7, e28, z29, ez29, Or.inr ⟨nc30, z62, ez62, ma65, cf66, v68, e80, Or.inr ⟨nc81, ma113, hu_ma113, z114, ez114, cf117, ca118, e140, z141, ez141, z142, ez142, hE⟩⟩⟩⟩)))) (show hi - md3 < (n_9 : Int) from by omega) hw (lv_sub hl [2, 3, 1, 0] rfl) | (exact ih9 ma113 cf117 ca118 md3 (wr_9 - wv4) z141 z142 _ _ ls (show (cf117 30).toInt = 0 → (cf 30).toInt = 0 from by omega) (show WrV cf117 (tf 6).toInt from hwr) (show (cf117 37).toInt = (cf 37).toInt from by first | exact oz_ff3084e3c1 k9_2 e124 e18 hkk37_e69 | omega) (show (cf117 38).toInt = (cf 38).toInt from by first | exact oz_ff3084e3c1 k9_3 e125 e13 e72 | omega) (show (cf117 43).toInt = (cf 43).toInt from by first | exact oz_ff3084e3c1 k9_4 e128 e20 hkk43_e69 | omega) (show (cf117 44).toInt = (cf 44).toInt from by first | exact oz_ff3084e3c1 k9_5 e129 e21 hkk44_e69 | omega) (show (cf117 45).toInt = (cf 45).toInt from by first | exact oz_ff3084e3c1 k9_6 e130 e22 hkk45_e69 | omega) (show (cf117 46).toInt = (cf 46).toInt from by first | exact oz_ff3084e3c1 k9_7 e131 e15 e74 | omega) (show (cf117 47).toInt = (cf 47).toInt from by first | exact oz_ff3084e3c1 k9_8 e132 e16 e75 | omega) (show (cf117 41).toInt = (cf 41).toInt from by first | exact oz_ff3084e3c1 k9_9 e126 e27 hkk41_e69 | omega) (show (cf117 55).toInt = (cf 55).toInt from by first | exact oz_ff3084e3c1 k9_10 e135 e24 hkk55_e69 | omega) (show (cf117 48).toInt = (cf 48).toInt from by first | exact oz_ff3084e3c1 k9_11 e133 e14 e73 | omega) (show (cf117 42).toInt = (cf 42).toInt from by first | exact oz_ff3084e3c1 k9_12 e127 e19 hkk42_e69 | omega) (show (cf117 54).toInt = (cf 54).toInt from by first | exact oz_ff3084e3c1 k9_13 e134 e23 hkk54_e69 | omega) (show (cf117 59).toInt = (cf 59).toInt from by first | exact oz_ff3084e3c1 k9_14 e138 e26 hkk59_e69 | omega) (show (cf 33).toInt ≤ (cf117 33).toInt from by first | exact oz_6e66b3a32a k9_15 e121 e12 e71 | omega) (show 6 * (cf117 33).toInt ≤ 6 * (cf 33).toInt + (w - (wr_9 - wv4)) from by omega) (show KnT (tf 6).toInt ca118 (cf117 33).toInt from (KnT.eq hkt (by omega))) (show KnS ca118 (cf117 33).toInt (cf117 48).toInt ys from (KnS.eq hks (by omega) (by omega))) (show CaG ca ca118 (cf 33).toInt (cf 48).toInt from (hcg.le (by omega) (by omega))) (show Ann na ma0 ma113 from han) (show FrC lo hi ma ma113 from hfc) (show p0.toInt + 1 ≤ md3 from by omega) (show md3 ≤ hi from by first | exact hm2_md3 | omega) (show 0 ≤ (wr_9 - wv4) from by omega) (show (wr_9 - wv4) ≤ w from by omega) (show RvO ta (tf 6).toInt na ma0 d md3 hi (wr_9 - wv4) z142 from (by rw [ez142]; exact hro2)) (show K_mp_checkEnum_9 tf ta na p0 ma cf ca ma113 cf117 ca118 z141 z142 from (fun y_f0 y_f1 y_f2 k hE => k9_27 y_f0 y_f1 y_f2 (k + 1) (Or.inr (Or.inl ⟨rfl, x9_2, x9_3, rfl, rfl, rfl, rfl, rfl, Or.inr ⟨nc1, z5, ez5, cf7, e28, z29, ez29, Or.inr ⟨nc30, z62, ez62, ma65, cf66, v68, e80, Or.inr ⟨nc81, ma113, hu_ma113, z114, ez114, cf117, ca118, e140, z141, ez141, z142, ez142, hE⟩⟩⟩⟩)))) (show hi - md3 < (n_9 : Int) from by omega) hw (lv_sub hl [2, 3, 1, 0] rfl))
  refine lv_iconst (v := 0) S.x S.b d_Mpg_checkEnum_0 (by decide) ?_
  refine lv_istore_n (lv' := [(2, .int 0), (0, .ref h), (1, .int p0)]) S.x S.b d_Mpg_checkEnum_1 rfl hl (by decide) rfl (fun ls hl => ?_)
  refine lv_aload_n S.x S.b d_Mpg_checkEnum_2 rfl (lv_at hl 1 rfl) ?_
  refine gP_17 S hT hw 0 rfl m10_1 d_Mpg_checkEnum_3 ?_
  refine lv_iload_n S.x S.b d_Mpg_checkEnum_6 rfl (lv_at hl 2 rfl) ?_
  refine px_iald S hT hw 0 13 (n := 2100) (f := (na 17)) rfl gp_17 (x := p0) (vp_in_iff.mpr (by first | exact oz_a7e05de1cd g16 g18 g1 g2 | (constructor <;> omega))) d_Mpg_checkEnum_7 ?_
  refine lv_topi (fun z143 ez143 => ?_)
  have lz143 := Int32.le_toInt z143
  have uz143 := Int32.toInt_lt z143
  have rz143 : z143.toInt = (na 17 p0.toNatClampNeg).toInt := by rw [ez143]
  refine lv_istore_n (lv' := [(3, .int z143), (2, .int 0), (0, .ref h), (1, .int p0)]) S.x S.b d_Mpg_checkEnum_8 rfl hl (by decide) rfl (fun ls hl => ?_)
  first | exact J9 ((hi - (p0.toInt + 1)).toNat + 1) ma cf ca (p0.toInt + 1) w (0 : Int32) z143 _ _ ls (show (cf 30).toInt = 0 → (cf 30).toInt = 0 from (fun q9 => q9)) (show WrV cf (tf 6).toInt from hwr) (show (cf 37).toInt = (cf 37).toInt from rfl) (show (cf 38).toInt = (cf 38).toInt from rfl) (show (cf 43).toInt = (cf 43).toInt from rfl) (show (cf 44).toInt = (cf 44).toInt from rfl) (show (cf 45).toInt = (cf 45).toInt from rfl) (show (cf 46).toInt = (cf 46).toInt from rfl) (show (cf 47).toInt = (cf 47).toInt from rfl) (show (cf 41).toInt = (cf 41).toInt from rfl) (show (cf 55).toInt = (cf 55).toInt from rfl) (show (cf 48).toInt = (cf 48).toInt from rfl) (show (cf 42).toInt = (cf 42).toInt from rfl) (show (cf 54).toInt = (cf 54).toInt from rfl) (show (cf 59).toInt = (cf 59).toInt from rfl) (show (cf 33).toInt ≤ (cf 33).toInt from oz_1cb5f934a5) (show 6 * (cf 33).toInt ≤ 6 * (cf 33).toInt + (w - w) from oz_1c3b0c11f9) (show KnT (tf 6).toInt ca (cf 33).toInt from (KnT.eq hkt (by omega))) (show KnS ca (cf 33).toInt (cf 48).toInt ys from (KnS.eq hks (by omega) (by omega))) (show CaG ca ca (cf 33).toInt (cf 48).toInt from (hcg.le (by omega) (by omega))) (show Ann na ma0 ma from han) (show FrC lo hi ma ma from hfc) (show p0.toInt + 1 ≤ (p0.toInt + 1) from oz_a1bc7e1f12) (show (p0.toInt + 1) ≤ hi from (oz_8cd8185cc8 g18)) (show 0 ≤ w from g5) (show w ≤ w from oz_1cb5f934a5) (show RvO ta (tf 6).toInt na ma0 d (p0.toInt + 1) hi w z143 from (by rw [ez143]; exact hro)) (show K_mp_checkEnum_9 tf ta na p0 ma cf ca ma cf ca 0 z143 from (fun y_f0 y_f1 y_f2 k hE => Exists.intro (k + 1) (Or.inl ⟨rfl, z143, ez143, hE⟩))) (show hi - (p0.toInt + 1) < ((((hi - (p0.toInt + 1)).toNat + 1 : Nat) : Int) : Int) from oz_natlt) hw (lv_sub hl [2, 3, 1, 0] rfl) | (exact J9 ((hi - (p0.toInt + 1)).toNat + 1) ma cf ca (p0.toInt + 1) w (0 : Int32) z143 _ _ ls (show (cf 30).toInt = 0 → (cf 30).toInt = 0 from by first | exact fun q9 => q9 | omega) (show WrV cf (tf 6).toInt from hwr) (show (cf 37).toInt = (cf 37).toInt from rfl) (show (cf 38).toInt = (cf 38).toInt from rfl) (show (cf 43).toInt = (cf 43).toInt from rfl) (show (cf 44).toInt = (cf 44).toInt from rfl) (show (cf 45).toInt = (cf 45).toInt from rfl) (show (cf 46).toInt = (cf 46).toInt from rfl) (show (cf 47).toInt = (cf 47).toInt from rfl) (show (cf 41).toInt = (cf 41).toInt from rfl) (show (cf 55).toInt = (cf 55).toInt from rfl) (show (cf 48).toInt = (cf 48).toInt from rfl) (show (cf 42).toInt = (cf 42).toInt from rfl) (show (cf 54).toInt = (cf 54).toInt from rfl) (show (cf 59).toInt = (cf 59).toInt from rfl) (show (cf 33).toInt ≤ (cf 33).toInt from by first | exact oz_1cb5f934a5 | omega) (show 6 * (cf 33).toInt ≤ 6 * (cf 33).toInt + (w - w) from by first | exact oz_1c3b0c11f9 | omega) (show KnT (tf 6).toInt ca (cf 33).toInt from (KnT.eq hkt (by omega))) (show KnS ca (cf 33).toInt (cf 48).toInt ys from (KnS.eq hks (by omega) (by omega))) (show CaG ca ca (cf 33).toInt (cf 48).toInt from (hcg.le (by omega) (by omega))) (show Ann na ma0 ma from han) (show FrC lo hi ma ma from hfc) (show p0.toInt + 1 ≤ (p0.toInt + 1) from by first | exact oz_a1bc7e1f12 | omega) (show (p0.toInt + 1) ≤ hi from by first | exact oz_8cd8185cc8 g18 | omega) (show 0 ≤ w from by first | exact g5 | omega) (show w ≤ w from by first | exact oz_1cb5f934a5 | omega) (show RvO ta (tf 6).toInt na ma0 d (p0.toInt + 1) hi w z143 from (by rw [ez143]; exact hro)) (show K_mp_checkEnum_9 tf ta na p0 ma cf ca ma cf ca 0 z143 from (fun y_f0 y_f1 y_f2 k hE => Exists.intro (k + 1) (Or.inl ⟨rfl, z143, ez143, hE⟩))) (show hi - (p0.toInt + 1) < ((((hi - (p0.toInt + 1)).toNat + 1 : Nat) : Int) : Int) from by first | exact oz_natlt | omega) hw (lv_sub hl [2, 3, 1, 0] rfl))
