theorem oz_400441ff84 {n0 : Nat}  : 8 + (8 + 11) + (200 * n0 + 420) ≤ (200 * n0 + 460) := by omega
theorem oz_6a7acb04fa {n0 : Nat}  : 8 + (2 + 11) + 0 ≤ (200 * n0 + 460) := by omega
theorem oz_84721d7e40 {n0 : Nat}  : 8 + (3 + 11) + 0 ≤ (200 * n0 + 460) := by omega
abbrev b_Mpg_checkAlone : ByteArray := prog_16_method_92_code
def y_Mpg_checkAlone : MethodName := ⟨"HomeSystemModel$Program", "checkAlone", "(I)V"⟩
theorem d_Mpg_checkAlone_0 : decode b_Mpg_checkAlone 0 = .ok (.aload_n 0, 1) := by decide +kernel
theorem d_Mpg_checkAlone_1 : decode b_Mpg_checkAlone 1 = .ok (.iload_n 1, 1) := by decide +kernel
theorem d_Mpg_checkAlone_2 : decode b_Mpg_checkAlone 2 = .ok (.iconst 0, 1) := by decide +kernel
theorem d_Mpg_checkAlone_3 : decode b_Mpg_checkAlone 3 = .ok (.invokevirtual 577, 3) := by decide +kernel
theorem d_Mpg_checkAlone_6 : decode b_Mpg_checkAlone 6 = .ok (.istore_n 2, 1) := by decide +kernel
theorem d_Mpg_checkAlone_7 : decode b_Mpg_checkAlone 7 = .ok (.iload_n 2, 1) := by decide +kernel
theorem d_Mpg_checkAlone_8 : decode b_Mpg_checkAlone 8 = .ok (.iconst 2, 1) := by decide +kernel
theorem d_Mpg_checkAlone_9 : decode b_Mpg_checkAlone 9 = .ok (.if_icmp .eq 8, 3) := by decide +kernel
theorem d_Mpg_checkAlone_12 : decode b_Mpg_checkAlone 12 = .ok (.iload_n 2, 1) := by decide +kernel
theorem d_Mpg_checkAlone_13 : decode b_Mpg_checkAlone 13 = .ok (.iconst 3, 1) := by decide +kernel
theorem d_Mpg_checkAlone_14 : decode b_Mpg_checkAlone 14 = .ok (.if_icmp .ne 13, 3) := by decide +kernel
theorem d_Mpg_checkAlone_17 : decode b_Mpg_checkAlone 17 = .ok (.aload_n 0, 1) := by decide +kernel
theorem d_Mpg_checkAlone_18 : decode b_Mpg_checkAlone 18 = .ok (.iconst 3, 1) := by decide +kernel
theorem d_Mpg_checkAlone_19 : decode b_Mpg_checkAlone 19 = .ok (.aload_n 0, 1) := by decide +kernel
theorem d_Mpg_checkAlone_20 : decode b_Mpg_checkAlone 20 = .ok (.iload_n 1, 1) := by decide +kernel
theorem d_Mpg_checkAlone_21 : decode b_Mpg_checkAlone 21 = .ok (.invokevirtual 584, 3) := by decide +kernel
theorem d_Mpg_checkAlone_24 : decode b_Mpg_checkAlone 24 = .ok (.invokevirtual 565, 3) := by decide +kernel
theorem d_Mpg_checkAlone_27 : decode b_Mpg_checkAlone 27 = .ok (.return_, 1) := by decide +kernel
theorem q_Mpg_checkAlone : px_y y_Mpg_checkAlone 1 := by unfold px_y; decide +kernel
set_option maxHeartbeats 4000000 in
set_option maxRecDepth 100000 in
theorem c_mp_checkAlone (l : Launch) (D : va_G) (cs : Nat → ClassId) (ma0 : Nat → Nat → Int32) (ys : Int) (ns : Int) (nf : Int) (kn : Int) (d : Nat) (lo : Int) (hi : Int) (h : Nat) (r : Nat → Nat) (g : Nat → Nat → Option Nat) (tf : Nat → Int32) (ta : Nat → Nat → Int32) (pf : Nat → Int32) (na : Nat → Nat → Int32) (wa : Nat → Nat → Int32) (ca : Nat → Nat → Int32) (ef : Nat → Int32) (ea : Nat → Nat → Int32) (xf : Nat → Int32) (xa : Nat → Nat → Int32) (ma : Nat → Nat → Int32) (cf : Nat → Int32) (p0 : Int32)  (g0 : 0 ≤ lo) (g1 : hi ≤ (pf 13).toInt) (g2 : (pf 13).toInt ≤ 2100) (g3 : (tf 6).toInt ≤ 2049) (g4 : (cf 33).toInt = kn) (g5 : 0 ≤ kn) (g6 : (cf 48).toInt = ns) (g7 : (cf 38).toInt = nf) (g8 : 0 ≤ nf) (htk : TkI tf ta) (hfs : FsI (tf 6).toInt (pf 13).toInt na) (hwr : WrV cf (tf 6).toInt) (hkt : KnT (tf 6).toInt ca (cf 33).toInt) (hft : FnT (tf 6).toInt na ca (cf 38).toInt) (hks : KnS ca kn ns ys) (hfp : FnP na ca nf) (han : Ann na ma0 ma) (hec : EcV ta (tf 6).toInt na ma0 d lo hi p0) : MetV l y_Mpg_checkAlone b_Mpg_checkAlone 3 D cs (4 * d + 13) (200 * d + 460) (0) (0) [.ref h, .int p0] [wdP cs h r g tf ta pf na ma wa cf ca ef ea xf xa] (oX (fun A U H => (oP A g U H)) [wdP cs h r g tf ta pf na ma wa cf ca ef ea xf xa]) (fun ps => ∃ (ma' : Nat → Nat → Int32) (cf' : Nat → Int32), (ps = [wdP cs h r g tf ta pf na ma' wa cf' ca ef ea xf xa]) ∧ (KpE cf cf') ∧ (WrV cf' (tf 6).toInt) ∧ ((cf' 33).toInt = (cf 33).toInt) ∧ ((cf' 38).toInt = (cf 38).toInt) ∧ ((cf' 48).toInt = (cf 48).toInt) ∧ ((cf' 46).toInt = (cf 46).toInt) ∧ ((cf' 47).toInt = (cf 47).toInt) ∧ ((cf' 57).toInt = (cf 57).toInt) ∧ (Ann na ma0 ma') ∧ (FrC lo hi ma ma') ∧ (ZT0 cf' (Gk ta ca na ma0 ns ys nf) na ma' lo hi p0) ∧ (R_mp_checkAlone tf ta na ca p0 ma cf ma' cf')) := by
  refine px_enter (by decide) (Nat.le_of_ble_eq_true rfl) ?_
  intro p e s m below meth c A ls hAe S hr hlk hnm hA hT hX hw hl
  have hl : lv_has ls 3 [(0, .ref h), (1, .int p0)] := hl
  have lp0 := Int32.le_toInt p0
  have up0 := Int32.toInt_lt p0
  have cst0 : (0 : Int32).toInt = 0 := rfl
  have cst2 : (2 : Int32).toInt = 2 := rfl
  have cst3 : (3 : Int32).toInt = 3 := rfl
  have hX : (fun A U H => (oP A g U H)) A s s.heap := by rw [hAe]; exact hX
  have hP := hX
  have hZ := hP.1
  have hF0 := hP.2.1
  have hke : KpE cf cf := KpE.rf
  have hfc : FrC lo hi ma ma := FrC.rf
  have hwr0 := hwr.1
  have hk11 := hkt.1
  have hf11 := hft.1
  have hec_p0 := hec
  have hrg := EcV.rng hec
  refine lv_aload_n S.x S.b d_Mpg_checkAlone_0 rfl (lv_at hl 0 rfl) ?_
  refine lv_iload_n S.x S.b d_Mpg_checkAlone_1 rfl (lv_at hl 1 rfl) ?_
  refine lv_iconst (v := 0) S.x S.b d_Mpg_checkAlone_2 (by decide) ?_
  first | refine px_calli (pr := []) (px_runV (As := [.int p0, .int 0]) (rest := []) S (c_S_check l D cs ma0 ys ns nf kn d lo hi h r g tf ta pf na wa ca ef ea xf xa ma cf p0 0  (show 0 ≤ lo from g0) (show hi ≤ (pf 13).toInt from g1) (show (pf 13).toInt ≤ 2100 from g2) (show (tf 6).toInt ≤ 2049 from g3) (show (cf 33).toInt = kn from g4) (show 0 ≤ kn from g5) (show (cf 48).toInt = ns from g6) (show (cf 38).toInt = nf from g7) (show 0 ≤ nf from g8) (show 0 ≤ (0 : Int) from oz_5a341f00aa) (show (0 : Int) ≤ 1 from oz_6e68cd0f48) htk (FsI.le (N' := (pf 13).toInt) hfs (by omega)) hwr (KnT.eq hkt (by omega)) (FnT.eq hft (by omega)) (KnS.eq hks (by omega) (by omega)) hfp han hec_p0 _) hT (pr := []) (pcs := [wdP cs h r g tf ta pf na ma wa cf ca ef ea xf xa]) hw (oX_call (P := (fun A U H => (oP A g U H))) (pr := []) oG_P hw hA hP) (px_recv hT hw 0 0 rfl rfl rfl) m12_217 m12_214 m12_216 ms_12_7 m1_21 q_Mpg_check ⟨show (4 * d + 12) + 1 ≤ (4 * d + 13) from (oz_8797106de7), show 8 + (8 + 11) + (200 * d + 420) ≤ (200 * d + 460) from (oz_400441ff84)⟩ hl.1 rfl (Nat.le_of_ble_eq_true rfl) d_Mpg_checkAlone_3 ⟨Nat.le_of_ble_eq_true rfl, Nat.le_of_ble_eq_true rfl⟩) hw hA (fun v6 p5 H locs hp5 hw => ?_) | (refine px_calli (pr := []) (px_runV (As := [.int p0, .int 0]) (rest := []) S (c_S_check l D cs ma0 ys ns nf kn d lo hi h r g tf ta pf na wa ca ef ea xf xa ma cf p0 0  (show 0 ≤ lo from by first | exact g0 | omega) (show hi ≤ (pf 13).toInt from by first | exact g1 | omega) (show (pf 13).toInt ≤ 2100 from by first | exact g2 | omega) (show (tf 6).toInt ≤ 2049 from by first | exact g3 | omega) (show (cf 33).toInt = kn from by first | exact g4 | omega) (show 0 ≤ kn from by first | exact g5 | omega) (show (cf 48).toInt = ns from by first | exact g6 | omega) (show (cf 38).toInt = nf from by first | exact g7 | omega) (show 0 ≤ nf from by first | exact g8 | omega) (show 0 ≤ (0 : Int) from by first | exact oz_5a341f00aa | omega) (show (0 : Int) ≤ 1 from by first | exact oz_6e68cd0f48 | omega) htk (FsI.le (N' := (pf 13).toInt) hfs (by omega)) hwr (KnT.eq hkt (by omega)) (FnT.eq hft (by omega)) (KnS.eq hks (by omega) (by omega)) hfp han hec_p0 _) hT (pr := []) (pcs := [wdP cs h r g tf ta pf na ma wa cf ca ef ea xf xa]) hw (oX_call (P := (fun A U H => (oP A g U H))) (pr := []) oG_P hw hA hP) (px_recv hT hw 0 0 rfl rfl rfl) m12_217 m12_214 m12_216 ms_12_7 m1_21 q_Mpg_check ⟨show (4 * d + 12) + 1 ≤ (4 * d + 13) from (by first | exact oz_8797106de7 | omega), show 8 + (8 + 11) + (200 * d + 420) ≤ (200 * d + 460) from (by first | exact oz_400441ff84 | omega)⟩ hl.1 rfl (Nat.le_of_ble_eq_true rfl) d_Mpg_checkAlone_3 ⟨Nat.le_of_ble_eq_true rfl, Nat.le_of_ble_eq_true rfl⟩) hw hA (fun v6 p5 H locs hp5 hw => ?_))
  obtain ⟨ma3, cf4, rfl, e7, e8, e9, e10, e11, e12, e13, e14, e15, e16, e17, e18, e19, e20, e21, e22⟩ := hp5
  have e7 : KpE cf cf4 := e7
  have hke := (hke).tr e7
  have hkz_e7 := e7.2
  have e8 : WrV cf4 (tf 6).toInt := e8
  have hwr := e8
  have hw0_e8 := hwr.1
  have e9 : (cf4 33).toInt = (cf 33).toInt := e9
  have e10 : (cf4 38).toInt = (cf 38).toInt := e10
  have e11 : (cf4 48).toInt = (cf 48).toInt := e11
  have e12 : (cf4 46).toInt = (cf 46).toInt := e12
  have e13 : (cf4 47).toInt = (cf 47).toInt := e13
  have e14 : (cf4 57).toInt = (cf 57).toInt := e14
  have e15 : Ann na ma0 ma3 := e15
  have han := e15
  have e16 : FrC lo hi ma ma3 := e16
  have hfc := hfc.tr e16 (by omega) (by omega)
  have e17 : 0 ≤ v6.toInt := e17
  have e18 : v6.toInt ≤ 4 := e18
  have e19 : NmJ ta ca na ma3 kn p0 v6.toInt := e19
  have hnm_p0 := e19
  have e20 : ZTy cf4 (Gk ta ca na ma0 ns ys nf) na ma3 lo hi p0 v6.toInt := e20
  have hzt_p0 := e20
  have e21 : ZNm cf4 (0 : Int) v6.toInt := e21
  have e22 : RL_mp_check d tf ta na ca p0 (0 : Int32) ma cf ma3 cf4 v6 := e22
  have e22X : RX_mp_check tf ta na ca p0 (0 : Int32) ma cf ma3 cf4 v6 := ⟨d, e22⟩
  have lv6 := Int32.le_toInt v6
  have uv6 := Int32.toInt_lt v6
  refine lv_istore_n (lv' := [(2, .int v6), (0, .ref h), (1, .int p0)]) S.x S.b d_Mpg_checkAlone_6 rfl hl (by decide) rfl (fun ls hl => ?_)
  refine lv_iload_n S.x S.b d_Mpg_checkAlone_7 rfl (lv_at hl 0 rfl) ?_
  refine lv_iconst (v := 2) S.x S.b d_Mpg_checkAlone_8 (by decide) ?_
  refine lv_icmp_eq (tgt := 17) S.x S.b d_Mpg_checkAlone_9 (by decide) (fun c23 => ?_) (fun c23 => ?_)
  · have nc23 : v6.toInt = (2 : Int) := (i_eq (x := v6) (y := 2)).mp c23
    refine lv_aload_n S.x S.b d_Mpg_checkAlone_17 rfl (lv_at hl 1 rfl) ?_
    refine lv_iconst (v := 3) S.x S.b d_Mpg_checkAlone_18 (by decide) ?_
    refine lv_aload_n S.x S.b d_Mpg_checkAlone_19 rfl (lv_at hl 1 rfl) ?_
    refine lv_iload_n S.x S.b d_Mpg_checkAlone_20 rfl (lv_at hl 2 rfl) ?_
    first | refine px_calli (pr := []) (px_runV (As := [.int p0]) (rest := [.int 3, .ref h]) S (c_mp_first l D cs h r g tf ta pf na ma3 wa cf4 ca ef ea xf xa p0  (show 0 ≤ p0.toInt from hrg.2.2) (show p0.toInt < (pf 13).toInt from (oz_7319c2f99d g1 hrg.2.1)) (show (pf 13).toInt ≤ 2100 from g2) htk (FsI.le (N' := (pf 13).toInt) hfs (by omega)) _) hT (pr := []) (pcs := [wdP cs h r g tf ta pf na ma3 wa cf4 ca ef ea xf xa]) hw px_X.tt (px_recv hT hw 0 0 rfl rfl rfl) m13_9 m13_6 m13_8 ms_12_15 m1_21 q_Mpg_first ⟨show 0 + 1 ≤ (4 * d + 13) from (oz_18c2ec885a), show 8 + (2 + 11) + 0 ≤ (200 * d + 460) from (oz_6a7acb04fa)⟩ hl.1 rfl (Nat.le_of_ble_eq_true rfl) d_Mpg_checkAlone_21 ⟨Nat.le_of_ble_eq_true rfl, Nat.le_of_ble_eq_true rfl⟩) hw hA (fun v26 p25 H locs hp25 hw => ?_) | (refine px_calli (pr := []) (px_runV (As := [.int p0]) (rest := [.int 3, .ref h]) S (c_mp_first l D cs h r g tf ta pf na ma3 wa cf4 ca ef ea xf xa p0  (show 0 ≤ p0.toInt from by first | exact hrg.2.2 | omega) (show p0.toInt < (pf 13).toInt from by first | exact oz_7319c2f99d g1 hrg.2.1 | omega) (show (pf 13).toInt ≤ 2100 from by first | exact g2 | omega) htk (FsI.le (N' := (pf 13).toInt) hfs (by omega)) _) hT (pr := []) (pcs := [wdP cs h r g tf ta pf na ma3 wa cf4 ca ef ea xf xa]) hw px_X.tt (px_recv hT hw 0 0 rfl rfl rfl) m13_9 m13_6 m13_8 ms_12_15 m1_21 q_Mpg_first ⟨show 0 + 1 ≤ (4 * d + 13) from (by first | exact oz_18c2ec885a | omega), show 8 + (2 + 11) + 0 ≤ (200 * d + 460) from (by first | exact oz_6a7acb04fa | omega)⟩ hl.1 rfl (Nat.le_of_ble_eq_true rfl) d_Mpg_checkAlone_21 ⟨Nat.le_of_ble_eq_true rfl, Nat.le_of_ble_eq_true rfl⟩) hw hA (fun v26 p25 H locs hp25 hw => ?_))
    obtain ⟨rfl, e27, e28, e29⟩ := hp25
    have e27 : 0 ≤ v26.toInt := e27
    have e28 : v26.toInt < (tf 6).toInt := e28
    have e29 : R_mp_first na p0 v26 := e29
    have lv26 := Int32.le_toInt v26
    have uv26 := Int32.toInt_lt v26
    first | refine px_callv (pr := []) (px_runV (As := [.int 3, .int v26]) (rest := []) S (c_mp_bad l D cs h r g tf ta pf na ma3 wa ca ef ea xf xa cf4 3 v26  (show 1 ≤ (3 : Int) from oz_00a6fa0b0d) (show 0 ≤ v26.toInt from e27) (show v26.toInt < (tf 6).toInt from e28) htk hwr _) hT (pr := []) (pcs := [wdP cs h r g tf ta pf na ma3 wa cf4 ca ef ea xf xa]) hw px_X.tt (px_recv hT hw 0 0 rfl rfl rfl) m12_173 m12_170 m12_172 ms_11_12 m1_21 q_Mpg_bad ⟨show 0 + 1 ≤ (4 * d + 13) from (oz_18c2ec885a), show 8 + (3 + 11) + 0 ≤ (200 * d + 460) from (oz_84721d7e40)⟩ hl.1 rfl (Nat.le_of_ble_eq_true rfl) d_Mpg_checkAlone_24 ⟨Nat.le_of_ble_eq_true rfl, Nat.le_of_ble_eq_true rfl⟩) hw hA (fun p32 H locs hp32 hw => ?_) | (refine px_callv (pr := []) (px_runV (As := [.int 3, .int v26]) (rest := []) S (c_mp_bad l D cs h r g tf ta pf na ma3 wa ca ef ea xf xa cf4 3 v26  (show 1 ≤ (3 : Int) from by first | exact oz_00a6fa0b0d | omega) (show 0 ≤ v26.toInt from by first | exact e27 | omega) (show v26.toInt < (tf 6).toInt from by first | exact e28 | omega) htk hwr _) hT (pr := []) (pcs := [wdP cs h r g tf ta pf na ma3 wa cf4 ca ef ea xf xa]) hw px_X.tt (px_recv hT hw 0 0 rfl rfl rfl) m12_173 m12_170 m12_172 ms_11_12 m1_21 q_Mpg_bad ⟨show 0 + 1 ≤ (4 * d + 13) from (by first | exact oz_18c2ec885a | omega), show 8 + (3 + 11) + 0 ≤ (200 * d + 460) from (by first | exact oz_84721d7e40 | omega)⟩ hl.1 rfl (Nat.le_of_ble_eq_true rfl) d_Mpg_checkAlone_24 ⟨Nat.le_of_ble_eq_true rfl, Nat.le_of_ble_eq_true rfl⟩) hw hA (fun p32 H locs hp32 hw => ?_))
    obtain ⟨cf31, rfl, e34, e35, e36, e37, e38, e39, e40, e41, e42, e43, e44, e45, e46, e47, e48, e49, e50, e51, e52, e53⟩ := hp32
    have e34 : KpE cf4 cf31 := e34
    have hke := (hke).tr e34
    have hkz_e34 := e34.2
    have hzt_p0 := Zr.kp hzt_p0 e34 id
    have e35 : WrV cf31 (tf 6).toInt := e35
    have hwr := e35
    have hw0_e35 := hwr.1
    have e36 : 1 ≤ (cf31 30).toInt := e36
    have e37 : (cf31 33).toInt = (cf4 33).toInt := e37
    have e38 : (cf31 38).toInt = (cf4 38).toInt := e38
    have e39 : (cf31 48).toInt = (cf4 48).toInt := e39
    have e40 : (cf31 46).toInt = (cf4 46).toInt := e40
    have e41 : (cf31 47).toInt = (cf4 47).toInt := e41
    have e42 : (cf31 57).toInt = (cf4 57).toInt := e42
    have e43 : (cf31 37).toInt = (cf4 37).toInt := e43
    have e44 : (cf31 42).toInt = (cf4 42).toInt := e44
    have e45 : (cf31 43).toInt = (cf4 43).toInt := e45
    have e46 : (cf31 44).toInt = (cf4 44).toInt := e46
    have e47 : (cf31 45).toInt = (cf4 45).toInt := e47
    have e48 : (cf31 54).toInt = (cf4 54).toInt := e48
    have e49 : (cf31 55).toInt = (cf4 55).toInt := e49
    have e50 : (cf31 58).toInt = (cf4 58).toInt := e50
    have e51 : (cf31 59).toInt = (cf4 59).toInt := e51
    have e52 : (cf31 41).toInt = (cf4 41).toInt := e52
    have e53 : R_mp_bad (3 : Int32) v26 cf4 cf31 := e53
    first | exact px_vret S hr hlk hAe hw (Nat.le_of_ble_eq_true rfl) (Nat.le_of_ble_eq_true rfl) (⟨ma3, cf31, rfl, (show KpE cf cf31 from hke), (show WrV cf31 (tf 6).toInt from hwr), (show (cf31 33).toInt = (cf 33).toInt from (oz_1687f4cc65 e9 e37)), (show (cf31 38).toInt = (cf 38).toInt from (oz_1687f4cc65 e10 e38)), (show (cf31 48).toInt = (cf 48).toInt from (oz_1687f4cc65 e11 e39)), (show (cf31 46).toInt = (cf 46).toInt from (oz_1687f4cc65 e12 e40)), (show (cf31 47).toInt = (cf 47).toInt from (oz_1687f4cc65 e13 e41)), (show (cf31 57).toInt = (cf 57).toInt from (oz_1687f4cc65 e14 e42)), (show Ann na ma0 ma3 from han), (show FrC lo hi ma ma3 from hfc), (show ZT0 cf31 (Gk ta ca na ma0 ns ys nf) na ma3 lo hi p0 from (zr_no (by omega))), (show R_mp_checkAlone tf ta na ca p0 ma cf ma3 cf31 from (Or.inl ⟨ma3, cf4, v6, e22X, Or.inl ⟨nc23, v26, e29, cf31, e53, rfl, rfl⟩⟩))⟩) d_Mpg_checkAlone_27 | (exact px_vret S hr hlk hAe hw (Nat.le_of_ble_eq_true rfl) (Nat.le_of_ble_eq_true rfl) (⟨ma3, cf31, rfl, (show KpE cf cf31 from hke), (show WrV cf31 (tf 6).toInt from hwr), (show (cf31 33).toInt = (cf 33).toInt from by first | exact oz_1687f4cc65 e9 e37 | omega), (show (cf31 38).toInt = (cf 38).toInt from by first | exact oz_1687f4cc65 e10 e38 | omega), (show (cf31 48).toInt = (cf 48).toInt from by first | exact oz_1687f4cc65 e11 e39 | omega), (show (cf31 46).toInt = (cf 46).toInt from by first | exact oz_1687f4cc65 e12 e40 | omega), (show (cf31 47).toInt = (cf 47).toInt from by first | exact oz_1687f4cc65 e13 e41 | omega), (show (cf31 57).toInt = (cf 57).toInt from by first | exact oz_1687f4cc65 e14 e42 | omega), (show Ann na ma0 ma3 from han), (show FrC lo hi ma ma3 from hfc), (show ZT0 cf31 (Gk ta ca na ma0 ns ys nf) na ma3 lo hi p0 from (zr_no (by omega))), (show R_mp_checkAlone tf ta na ca p0 ma cf ma3 cf31 from (Or.inl ⟨ma3, cf4, v6, e22X, Or.inl ⟨nc23, v26, e29, cf31, e53, rfl, rfl⟩⟩))⟩) d_Mpg_checkAlone_27)
  · have nc23 : ¬ v6.toInt = (2 : Int) := mt (i_eq (x := v6) (y := 2)).mpr c23
    refine lv_iload_n S.x S.b d_Mpg_checkAlone_12 rfl (lv_at hl 0 rfl) ?_
    refine lv_iconst (v := 3) S.x S.b d_Mpg_checkAlone_13 (by decide) ?_
    refine lv_icmp_ne (tgt := 27) S.x S.b d_Mpg_checkAlone_14 (by decide) (fun c54 => ?_) (fun c54 => ?_)
    · have nc54 : ¬ v6.toInt = (3 : Int) := mt (i_eq (x := v6) (y := 3)).mpr c54
      first | exact px_vret S hr hlk hAe hw (Nat.le_of_ble_eq_true rfl) (Nat.le_of_ble_eq_true rfl) (⟨ma3, cf4, rfl, (show KpE cf cf4 from hke), (show WrV cf4 (tf 6).toInt from hwr), (show (cf4 33).toInt = (cf 33).toInt from e9), (show (cf4 38).toInt = (cf 38).toInt from e10), (show (cf4 48).toInt = (cf 48).toInt from e11), (show (cf4 46).toInt = (cf 46).toInt from e12), (show (cf4 47).toInt = (cf 47).toInt from e13), (show (cf4 57).toInt = (cf 57).toInt from e14), (show Ann na ma0 ma3 from han), (show FrC lo hi ma ma3 from hfc), (show ZT0 cf4 (Gk ta ca na ma0 ns ys nf) na ma3 lo hi p0 from (zt0_mk hzt_p0 (by omega))), (show R_mp_checkAlone tf ta na ca p0 ma cf ma3 cf4 from (Or.inl ⟨ma3, cf4, v6, e22X, Or.inr ⟨nc23, Or.inl ⟨nc54, rfl, rfl⟩⟩⟩))⟩) d_Mpg_checkAlone_27 | (exact px_vret S hr hlk hAe hw (Nat.le_of_ble_eq_true rfl) (Nat.le_of_ble_eq_true rfl) (⟨ma3, cf4, rfl, (show KpE cf cf4 from hke), (show WrV cf4 (tf 6).toInt from hwr), (show (cf4 33).toInt = (cf 33).toInt from by first | exact e9 | omega), (show (cf4 38).toInt = (cf 38).toInt from by first | exact e10 | omega), (show (cf4 48).toInt = (cf 48).toInt from by first | exact e11 | omega), (show (cf4 46).toInt = (cf 46).toInt from by first | exact e12 | omega), (show (cf4 47).toInt = (cf 47).toInt from by first | exact e13 | omega), (show (cf4 57).toInt = (cf 57).toInt from by first | exact e14 | omega), (show Ann na ma0 ma3 from han), (show FrC lo hi ma ma3 from hfc), (show ZT0 cf4 (Gk ta ca na ma0 ns ys nf) na ma3 lo hi p0 from (zt0_mk hzt_p0 (by omega))), (show R_mp_checkAlone tf ta na ca p0 ma cf ma3 cf4 from (Or.inl ⟨ma3, cf4, v6, e22X, Or.inr ⟨nc23, Or.inl ⟨nc54, rfl, rfl⟩⟩⟩))⟩) d_Mpg_checkAlone_27)
    · have nc54 : v6.toInt = (3 : Int) := (i_eq (x := v6) (y := 3)).mp c54
      refine lv_aload_n S.x S.b d_Mpg_checkAlone_17 rfl (lv_at hl 1 rfl) ?_
      refine lv_iconst (v := 3) S.x S.b d_Mpg_checkAlone_18 (by decide) ?_
      refine lv_aload_n S.x S.b d_Mpg_checkAlone_19 rfl (lv_at hl 1 rfl) ?_
      refine lv_iload_n S.x S.b d_Mpg_checkAlone_20 rfl (lv_at hl 2 rfl) ?_
      first | refine px_calli (pr := []) (px_runV (As := [.int p0]) (rest := [.int 3, .ref h]) S (c_mp_first l D cs h r g tf ta pf na ma3 wa cf4 ca ef ea xf xa p0  (show 0 ≤ p0.toInt from hrg.2.2) (show p0.toInt < (pf 13).toInt from (oz_7319c2f99d g1 hrg.2.1)) (show (pf 13).toInt ≤ 2100 from g2) htk (FsI.le (N' := (pf 13).toInt) hfs (by omega)) _) hT (pr := []) (pcs := [wdP cs h r g tf ta pf na ma3 wa cf4 ca ef ea xf xa]) hw px_X.tt (px_recv hT hw 0 0 rfl rfl rfl) m13_9 m13_6 m13_8 ms_12_15 m1_21 q_Mpg_first ⟨show 0 + 1 ≤ (4 * d + 13) from (oz_18c2ec885a), show 8 + (2 + 11) + 0 ≤ (200 * d + 460) from (oz_6a7acb04fa)⟩ hl.1 rfl (Nat.le_of_ble_eq_true rfl) d_Mpg_checkAlone_21 ⟨Nat.le_of_ble_eq_true rfl, Nat.le_of_ble_eq_true rfl⟩) hw hA (fun v57 p56 H locs hp56 hw => ?_) | (refine px_calli (pr := []) (px_runV (As := [.int p0]) (rest := [.int 3, .ref h]) S (c_mp_first l D cs h r g tf ta pf na ma3 wa cf4 ca ef ea xf xa p0  (show 0 ≤ p0.toInt from by first | exact hrg.2.2 | omega) (show p0.toInt < (pf 13).toInt from by first | exact oz_7319c2f99d g1 hrg.2.1 | omega) (show (pf 13).toInt ≤ 2100 from by first | exact g2 | omega) htk (FsI.le (N' := (pf 13).toInt) hfs (by omega)) _) hT (pr := []) (pcs := [wdP cs h r g tf ta pf na ma3 wa cf4 ca ef ea xf xa]) hw px_X.tt (px_recv hT hw 0 0 rfl rfl rfl) m13_9 m13_6 m13_8 ms_12_15 m1_21 q_Mpg_first ⟨show 0 + 1 ≤ (4 * d + 13) from (by first | exact oz_18c2ec885a | omega), show 8 + (2 + 11) + 0 ≤ (200 * d + 460) from (by first | exact oz_6a7acb04fa | omega)⟩ hl.1 rfl (Nat.le_of_ble_eq_true rfl) d_Mpg_checkAlone_21 ⟨Nat.le_of_ble_eq_true rfl, Nat.le_of_ble_eq_true rfl⟩) hw hA (fun v57 p56 H locs hp56 hw => ?_))
      obtain ⟨rfl, e58, e59, e60⟩ := hp56
      have e58 : 0 ≤ v57.toInt := e58
      have e59 : v57.toInt < (tf 6).toInt := e59
      have e60 : R_mp_first na p0 v57 := e60
      have lv57 := Int32.le_toInt v57
      have uv57 := Int32.toInt_lt v57
      first | refine px_callv (pr := []) (px_runV (As := [.int 3, .int v57]) (rest := []) S (c_mp_bad l D cs h r g tf ta pf na ma3 wa ca ef ea xf xa cf4 3 v57  (show 1 ≤ (3 : Int) from oz_00a6fa0b0d) (show 0 ≤ v57.toInt from e58) (show v57.toInt < (tf 6).toInt from e59) htk hwr _) hT (pr := []) (pcs := [wdP cs h r g tf ta pf na ma3 wa cf4 ca ef ea xf xa]) hw px_X.tt (px_recv hT hw 0 0 rfl rfl rfl) m12_173 m12_170 m12_172 ms_11_12 m1_21 q_Mpg_bad ⟨show 0 + 1 ≤ (4 * d + 13) from (oz_18c2ec885a), show 8 + (3 + 11) + 0 ≤ (200 * d + 460) from (oz_84721d7e40)⟩ hl.1 rfl (Nat.le_of_ble_eq_true rfl) d_Mpg_checkAlone_24 ⟨Nat.le_of_ble_eq_true rfl, Nat.le_of_ble_eq_true rfl⟩) hw hA (fun p63 H locs hp63 hw => ?_) | (refine px_callv (pr := []) (px_runV (As := [.int 3, .int v57]) (rest := []) S (c_mp_bad l D cs h r g tf ta pf na ma3 wa ca ef ea xf xa cf4 3 v57  (show 1 ≤ (3 : Int) from by first | exact oz_00a6fa0b0d | omega) (show 0 ≤ v57.toInt from by first | exact e58 | omega) (show v57.toInt < (tf 6).toInt from by first | exact e59 | omega) htk hwr _) hT (pr := []) (pcs := [wdP cs h r g tf ta pf na ma3 wa cf4 ca ef ea xf xa]) hw px_X.tt (px_recv hT hw 0 0 rfl rfl rfl) m12_173 m12_170 m12_172 ms_11_12 m1_21 q_Mpg_bad ⟨show 0 + 1 ≤ (4 * d + 13) from (by first | exact oz_18c2ec885a | omega), show 8 + (3 + 11) + 0 ≤ (200 * d + 460) from (by first | exact oz_84721d7e40 | omega)⟩ hl.1 rfl (Nat.le_of_ble_eq_true rfl) d_Mpg_checkAlone_24 ⟨Nat.le_of_ble_eq_true rfl, Nat.le_of_ble_eq_true rfl⟩) hw hA (fun p63 H locs hp63 hw => ?_))
      obtain ⟨cf62, rfl, e65, e66, e67, e68, e69, e70, e71, e72, e73, e74, e75, e76, e77, e78, e79, e80, e81, e82, e83, e84⟩ := hp63
      have e65 : KpE cf4 cf62 := e65
      have hke := (hke).tr e65
      have hkz_e65 := e65.2
      have hzt_p0 := Zr.kp hzt_p0 e65 id
      have e66 : WrV cf62 (tf 6).toInt := e66
      have hwr := e66
      have hw0_e66 := hwr.1
      have e67 : 1 ≤ (cf62 30).toInt := e67
      have e68 : (cf62 33).toInt = (cf4 33).toInt := e68
      have e69 : (cf62 38).toInt = (cf4 38).toInt := e69
      have e70 : (cf62 48).toInt = (cf4 48).toInt := e70
      have e71 : (cf62 46).toInt = (cf4 46).toInt := e71
      have e72 : (cf62 47).toInt = (cf4 47).toInt := e72
      have e73 : (cf62 57).toInt = (cf4 57).toInt := e73
      have e74 : (cf62 37).toInt = (cf4 37).toInt := e74
      have e75 : (cf62 42).toInt = (cf4 42).toInt := e75
      have e76 : (cf62 43).toInt = (cf4 43).toInt := e76
      have e77 : (cf62 44).toInt = (cf4 44).toInt := e77
      have e78 : (cf62 45).toInt = (cf4 45).toInt := e78
      have e79 : (cf62 54).toInt = (cf4 54).toInt := e79
      have e80 : (cf62 55).toInt = (cf4 55).toInt := e80
      have e81 : (cf62 58).toInt = (cf4 58).toInt := e81
      have e82 : (cf62 59).toInt = (cf4 59).toInt := e82
      have e83 : (cf62 41).toInt = (cf4 41).toInt := e83
      have e84 : R_mp_bad (3 : Int32) v57 cf4 cf62 := e84
      first | exact px_vret S hr hlk hAe hw (Nat.le_of_ble_eq_true rfl) (Nat.le_of_ble_eq_true rfl) (⟨ma3, cf62, rfl, (show KpE cf cf62 from hke), (show WrV cf62 (tf 6).toInt from hwr), (show (cf62 33).toInt = (cf 33).toInt from (oz_1687f4cc65 e9 e68)), (show (cf62 38).toInt = (cf 38).toInt from (oz_1687f4cc65 e10 e69)), (show (cf62 48).toInt = (cf 48).toInt from (oz_1687f4cc65 e11 e70)), (show (cf62 46).toInt = (cf 46).toInt from (oz_1687f4cc65 e12 e71)), (show (cf62 47).toInt = (cf 47).toInt from (oz_1687f4cc65 e13 e72)), (show (cf62 57).toInt = (cf 57).toInt from (oz_1687f4cc65 e14 e73)), (show Ann na ma0 ma3 from han), (show FrC lo hi ma ma3 from hfc), (show ZT0 cf62 (Gk ta ca na ma0 ns ys nf) na ma3 lo hi p0 from (zr_no (by omega))), (show R_mp_checkAlone tf ta na ca p0 ma cf ma3 cf62 from (Or.inl ⟨ma3, cf4, v6, e22X, Or.inr ⟨nc23, Or.inr ⟨nc54, v57, e60, cf62, e84, rfl, rfl⟩⟩⟩))⟩) d_Mpg_checkAlone_27 | (exact px_vret S hr hlk hAe hw (Nat.le_of_ble_eq_true rfl) (Nat.le_of_ble_eq_true rfl) (⟨ma3, cf62, rfl, (show KpE cf cf62 from hke), (show WrV cf62 (tf 6).toInt from hwr), (show (cf62 33).toInt = (cf 33).toInt from by first | exact oz_1687f4cc65 e9 e68 | omega), (show (cf62 38).toInt = (cf 38).toInt from by first | exact oz_1687f4cc65 e10 e69 | omega), (show (cf62 48).toInt = (cf 48).toInt from by first | exact oz_1687f4cc65 e11 e70 | omega), (show (cf62 46).toInt = (cf 46).toInt from by first | exact oz_1687f4cc65 e12 e71 | omega), (show (cf62 47).toInt = (cf 47).toInt from by first | exact oz_1687f4cc65 e13 e72 | omega), (show (cf62 57).toInt = (cf 57).toInt from by first | exact oz_1687f4cc65 e14 e73 | omega), (show Ann na ma0 ma3 from han), (show FrC lo hi ma ma3 from hfc), (show ZT0 cf62 (Gk ta ca na ma0 ns ys nf) na ma3 lo hi p0 from (zr_no (by omega))), (show R_mp_checkAlone tf ta na ca p0 ma cf ma3 cf62 from (Or.inl ⟨ma3, cf4, v6, e22X, Or.inr ⟨nc23, Or.inr ⟨nc54, v57, e60, cf62, e84, rfl, rfl⟩⟩⟩))⟩) d_Mpg_checkAlone_27)
