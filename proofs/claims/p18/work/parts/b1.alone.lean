abbrev b_Mpg_checkAlone : ByteArray := prog_16_method_92_code
def y_Mpg_checkAlone : MethodName := ⟨"HomeSystemModel$Program", "checkAlone", "(I)V"⟩
theorem d_Mpg_checkAlone_0 : decode b_Mpg_checkAlone 0 = .ok (.aload_n 0, 1) := by decide +kernel
theorem d_Mpg_checkAlone_1 : decode b_Mpg_checkAlone 1 = .ok (.iload_n 1, 1) := by decide +kernel
theorem d_Mpg_checkAlone_2 : decode b_Mpg_checkAlone 2 = .ok (.iconst 0, 1) := by decide +kernel
theorem d_Mpg_checkAlone_3 : decode b_Mpg_checkAlone 3 = .ok (.invokevirtual 577, 3) := by decide +kernel
theorem d_Mpg_checkAlone_6 : decode b_Mpg_checkAlone 6 = .ok (.istore_n 2, 1) := by decide +kernel
theorem d_Mpg_checkAlone_7 : decode b_Mpg_checkAlone 7 = .ok (.iload_n 2, 1) := by decide +kernel
theorem d_Mpg_checkAlone_8 : decode b_Mpg_checkAlone 8 = .ok (.iconst 2, 1) := by decide +kernel
theorem d_Mpg_checkAlone_9 : decode b_Mpg_checkAlone 9 = .ok (.if_icmp .eq 8, 3) := by decide +kernel
theorem d_Mpg_checkAlone_12 : decode b_Mpg_checkAlone 12 = .ok (.iload_n 2, 1) := by decide +kernel
theorem d_Mpg_checkAlone_13 : decode b_Mpg_checkAlone 13 = .ok (.iconst 3, 1) := by decide +kernel
theorem d_Mpg_checkAlone_14 : decode b_Mpg_checkAlone 14 = .ok (.if_icmp .ne 13, 3) := by decide +kernel
theorem d_Mpg_checkAlone_17 : decode b_Mpg_checkAlone 17 = .ok (.aload_n 0, 1) := by decide +kernel
theorem d_Mpg_checkAlone_18 : decode b_Mpg_checkAlone 18 = .ok (.iconst 3, 1) := by decide +kernel
theorem d_Mpg_checkAlone_19 : decode b_Mpg_checkAlone 19 = .ok (.aload_n 0, 1) := by decide +kernel
theorem d_Mpg_checkAlone_20 : decode b_Mpg_checkAlone 20 = .ok (.iload_n 1, 1) := by decide +kernel
theorem d_Mpg_checkAlone_21 : decode b_Mpg_checkAlone 21 = .ok (.invokevirtual 584, 3) := by decide +kernel
theorem d_Mpg_checkAlone_24 : decode b_Mpg_checkAlone 24 = .ok (.invokevirtual 565, 3) := by decide +kernel
theorem d_Mpg_checkAlone_27 : decode b_Mpg_checkAlone 27 = .ok (.return_, 1) := by decide +kernel
theorem q_Mpg_checkAlone : px_y y_Mpg_checkAlone 1 := by unfold px_y; decide +kernel
set_option maxHeartbeats 4000000 in
set_option maxRecDepth 100000 in
theorem c_mp_checkAlone (l : Launch) (D : va_G) (cs : Nat → ClassId) (ma0 : Nat → Nat → Int32) (ys : Int) (ns : Int) (nf : Int) (kn : Int) (d : Nat) (lo : Int) (hi : Int) (h : Nat) (r : Nat → Nat) (g : Nat → Nat → Option Nat) (tf : Nat → Int32) (ta : Nat → Nat → Int32) (pf : Nat → Int32) (na : Nat → Nat → Int32) (wa : Nat → Nat → Int32) (ca : Nat → Nat → Int32) (ef : Nat → Int32) (ea : Nat → Nat → Int32) (xf : Nat → Int32) (xa : Nat → Nat → Int32) (ma : Nat → Nat → Int32) (cf : Nat → Int32) (p0 : Int32)  (g0 : 0 ≤ lo) (g1 : hi ≤ (pf 13).toInt) (g2 : (pf 13).toInt ≤ 2100) (g3 : (tf 6).toInt ≤ 2049) (g4 : (cf 33).toInt = kn) (g5 : 0 ≤ kn) (g6 : (cf 48).toInt = ns) (g7 : (cf 38).toInt = nf) (g8 : 0 ≤ nf) (htk : TkI tf ta) (hfs : FsI (tf 6).toInt (pf 13).toInt na) (hwr : WrV cf (tf 6).toInt) (hkt : KnT (tf 6).toInt ca (cf 33).toInt) (hft : FnT (tf 6).toInt na ca (cf 38).toInt) (hks : KnS ca kn ns ys) (hfp : FnP na ca nf) (han : Ann na ma0 ma) (hec : EcV ta (tf 6).toInt na ma0 d lo hi p0) : MetV l y_Mpg_checkAlone b_Mpg_checkAlone 3 D cs (4 * d + 13) (200 * d + 460) (0) (0) [.ref h, .int p0] [wdP cs h r g tf ta pf na ma wa cf ca ef ea xf xa] (oX (fun A U H => (oP A g U H)) [wdP cs h r g tf ta pf na ma wa cf ca ef ea xf xa]) (fun ps => ∃ (ma' : Nat → Nat → Int32) (cf' : Nat → Int32), (ps = [wdP cs h r g tf ta pf na ma' wa cf' ca ef ea xf xa]) ∧ (KpE cf cf') ∧ (WrV cf' (tf 6).toInt) ∧ ((cf' 33).toInt = (cf 33).toInt) ∧ ((cf' 38).toInt = (cf 38).toInt) ∧ ((cf' 48).toInt = (cf 48).toInt) ∧ ((cf' 46).toInt = (cf 46).toInt) ∧ ((cf' 47).toInt = (cf 47).toInt) ∧ ((cf' 57).toInt = (cf 57).toInt) ∧ (Ann na ma0 ma') ∧ (FrC lo hi ma ma') ∧ (ZT0 cf' (Gk ta ca na ma0 ns ys nf) na ma' lo hi p0)) := by
  refine px_enter (by decide) (Nat.le_of_ble_eq_true rfl) ?_
  intro p e s m below meth c A ls hAe S hr hlk hnm hA hT hX hw hl
  have hl : lv_has ls 3 [(0, .ref h), (1, .int p0)] := hl
  have lp0 := Int32.le_toInt p0
  have up0 := Int32.toInt_lt p0
  have cst0 : (0 : Int32).toInt = 0 := rfl
  have cst2 : (2 : Int32).toInt = 2 := rfl
  have cst3 : (3 : Int32).toInt = 3 := rfl
  have hX : (fun A U H => (oP A g U H)) A s s.heap := by rw [hAe]; exact hX
  have hP := hX
  have hZ := hP.1
  have hF0 := hP.2.1
  have hke : KpE cf cf := KpE.rf
  have hfc : FrC lo hi ma ma := FrC.rf
  have hwr0 := hwr.1
  have hk11 := hkt.1
  have hf11 := hft.1
  have hec_p0 := hec
  have hrg := EcV.rng hec
  refine lv_aload_n S.x S.b d_Mpg_checkAlone_0 rfl (lv_at hl 0 rfl) ?_
  refine lv_iload_n S.x S.b d_Mpg_checkAlone_1 rfl (lv_at hl 1 rfl) ?_
  refine lv_iconst (v := 0) S.x S.b d_Mpg_checkAlone_2 (by decide) ?_
  refine px_calli (pr := []) (px_runV (As := [.int p0, .int 0]) (rest := []) S (c_S_check l D cs ma0 ys ns nf kn d lo hi h r g tf ta pf na wa ca ef ea xf xa ma cf p0 0  (show 0 ≤ lo from by first | exact g0 | omega) (show hi ≤ (pf 13).toInt from by first | exact g1 | omega) (show (pf 13).toInt ≤ 2100 from by first | exact g2 | omega) (show (tf 6).toInt ≤ 2049 from by first | exact g3 | omega) (show (cf 33).toInt = kn from by first | exact g4 | omega) (show 0 ≤ kn from by first | exact g5 | omega) (show (cf 48).toInt = ns from by first | exact g6 | omega) (show (cf 38).toInt = nf from by first | exact g7 | omega) (show 0 ≤ nf from by first | exact g8 | omega) (show 0 ≤ (0 : Int) from by first | decide | omega) (show (0 : Int) ≤ 1 from by first | decide | omega) htk (FsI.le (N' := (pf 13).toInt) hfs (by first | with_reducible rfl | with_reducible assumption | omega)) hwr (KnT.eq hkt (by first | with_reducible rfl | with_reducible assumption | omega)) (FnT.eq hft (by first | with_reducible rfl | with_reducible assumption | omega)) (KnS.eq hks (by first | with_reducible rfl | with_reducible assumption | omega) (by first | with_reducible rfl | with_reducible assumption | omega)) hfp han hec_p0 _) hT (pr := []) (pcs := [wdP cs h r g tf ta pf na ma wa cf ca ef ea xf xa]) hw (oX_call (P := (fun A U H => (oP A g U H))) (pr := []) oG_P hw hA hP) (px_recv hT hw 0 0 rfl rfl rfl) m12_217 m12_214 m12_216 ms_12_7 m1_21 q_Mpg_check ⟨show (4 * d + 12) + 1 ≤ (4 * d + 13) from by first | with_reducible rfl | with_reducible assumption | omega, show 8 + (8 + 11) + (200 * d + 420) ≤ (200 * d + 460) from by first | with_reducible rfl | with_reducible assumption | omega⟩ hl.1 rfl (Nat.le_of_ble_eq_true rfl) d_Mpg_checkAlone_3 ⟨Nat.le_of_ble_eq_true rfl, Nat.le_of_ble_eq_true rfl⟩) hw hA (fun v6 p5 H locs hp5 hw => ?_)
  obtain ⟨ma3, cf4, rfl, e7, e8, e9, e10, e11, e12, e13, e14, e15, e16, e17, e18, e19, e20, e21⟩ := hp5
  have e7 : KpE cf cf4 := e7
  have hke := (hke).tr e7
  have hkz_e7 := e7.2
  have e8 : WrV cf4 (tf 6).toInt := e8
  have hwr := e8
  have hw0_e8 := hwr.1
  have e9 : (cf4 33).toInt = (cf 33).toInt := e9
  have e10 : (cf4 38).toInt = (cf 38).toInt := e10
  have e11 : (cf4 48).toInt = (cf 48).toInt := e11
  have e12 : (cf4 46).toInt = (cf 46).toInt := e12
  have e13 : (cf4 47).toInt = (cf 47).toInt := e13
  have e14 : (cf4 57).toInt = (cf 57).toInt := e14
  have e15 : Ann na ma0 ma3 := e15
  have han := e15
  have e16 : FrC lo hi ma ma3 := e16
  have hfc := hfc.tr e16 (by first | with_reducible rfl | with_reducible assumption | omega) (by first | with_reducible rfl | with_reducible assumption | omega)
  have e17 : 0 ≤ v6.toInt := e17
  have e18 : v6.toInt ≤ 4 := e18
  have e19 : NmJ ta ca na ma3 kn p0 v6.toInt := e19
  have hnm_p0 := e19
  have e20 : ZTy cf4 (Gk ta ca na ma0 ns ys nf) na ma3 lo hi p0 v6.toInt := e20
  have hzt_p0 := e20
  have e21 : ZNm cf4 (0 : Int) v6.toInt := e21
  have hw : pw D A s.heap H locs [wdP cs h r g tf ta pf na ma3 wa cf4 ca ef ea xf xa] := hw
  have lv6 := Int32.le_toInt v6
  have uv6 := Int32.toInt_lt v6
  refine lv_istore_n (lv' := [(2, .int v6), (0, .ref h), (1, .int p0)]) S.x S.b d_Mpg_checkAlone_6 rfl hl (by decide) rfl (fun ls hl => ?_)
  refine lv_iload_n S.x S.b d_Mpg_checkAlone_7 rfl (lv_at hl 0 rfl) ?_
  refine lv_iconst (v := 2) S.x S.b d_Mpg_checkAlone_8 (by decide) ?_
  refine lv_icmp_eq (tgt := 17) S.x S.b d_Mpg_checkAlone_9 (by decide) (fun c22 => ?_) (fun c22 => ?_)
  · have nc22 : v6.toInt = (2 : Int) := (i_eq (x := v6) (y := 2)).mp c22
    refine lv_aload_n S.x S.b d_Mpg_checkAlone_17 rfl (lv_at hl 1 rfl) ?_
    refine lv_iconst (v := 3) S.x S.b d_Mpg_checkAlone_18 (by decide) ?_
    refine lv_aload_n S.x S.b d_Mpg_checkAlone_19 rfl (lv_at hl 1 rfl) ?_
    refine lv_iload_n S.x S.b d_Mpg_checkAlone_20 rfl (lv_at hl 2 rfl) ?_
    refine px_calli (pr := []) (px_runV (As := [.int p0]) (rest := [.int 3, .ref h]) S (c_mp_first l D cs h r g tf ta pf na ma3 wa cf4 ca ef ea xf xa p0  (show 0 ≤ p0.toInt from by first | exact hrg.2.2 | omega) (show p0.toInt < (pf 13).toInt from by first | exact oz_7319c2f99d g1 hrg.2.1 | omega) (show (pf 13).toInt ≤ 2100 from by first | exact g2 | omega) htk (FsI.le (N' := (pf 13).toInt) hfs (by first | with_reducible rfl | with_reducible assumption | omega)) _) hT (pr := []) (pcs := [wdP cs h r g tf ta pf na ma3 wa cf4 ca ef ea xf xa]) hw px_X.tt (px_recv hT hw 0 0 rfl rfl rfl) m13_9 m13_6 m13_8 ms_12_15 m1_21 q_Mpg_first ⟨show 0 + 1 ≤ (4 * d + 13) from by first | with_reducible rfl | with_reducible assumption | omega, show 8 + (2 + 11) + 0 ≤ (200 * d + 460) from by first | with_reducible rfl | with_reducible assumption | omega⟩ hl.1 rfl (Nat.le_of_ble_eq_true rfl) d_Mpg_checkAlone_21 ⟨Nat.le_of_ble_eq_true rfl, Nat.le_of_ble_eq_true rfl⟩) hw hA (fun v24 p23 H locs hp23 hw => ?_)
    obtain ⟨rfl, e25, e26⟩ := hp23
    have e25 : 0 ≤ v24.toInt := e25
    have e26 : v24.toInt < (tf 6).toInt := e26
    have hw : pw D A s.heap H locs [wdP cs h r g tf ta pf na ma3 wa cf4 ca ef ea xf xa] := hw
    have lv24 := Int32.le_toInt v24
    have uv24 := Int32.toInt_lt v24
    refine px_callv (pr := []) (px_runV (As := [.int 3, .int v24]) (rest := []) S (c_mp_bad l D cs h r g tf ta pf na ma3 wa ca ef ea xf xa cf4 3 v24  (show 1 ≤ (3 : Int) from by first | decide | omega) (show 0 ≤ v24.toInt from by first | exact e25 | omega) (show v24.toInt < (tf 6).toInt from by first | exact e26 | omega) htk hwr _) hT (pr := []) (pcs := [wdP cs h r g tf ta pf na ma3 wa cf4 ca ef ea xf xa]) hw px_X.tt (px_recv hT hw 0 0 rfl rfl rfl) m12_173 m12_170 m12_172 ms_11_12 m1_21 q_Mpg_bad ⟨show 0 + 1 ≤ (4 * d + 13) from by first | with_reducible rfl | with_reducible assumption | omega, show 8 + (3 + 11) + 0 ≤ (200 * d + 460) from by first | with_reducible rfl | with_reducible assumption | omega⟩ hl.1 rfl (Nat.le_of_ble_eq_true rfl) d_Mpg_checkAlone_24 ⟨Nat.le_of_ble_eq_true rfl, Nat.le_of_ble_eq_true rfl⟩) hw hA (fun p29 H locs hp29 hw => ?_)
    obtain ⟨cf28, rfl, e31, e32, e33, e34, e35, e36, e37, e38, e39, e40, e41, e42, e43, e44, e45, e46, e47, e48, e49⟩ := hp29
    have e31 : KpE cf4 cf28 := e31
    have hke := (hke).tr e31
    have hkz_e31 := e31.2
    have hzt_p0 := Zr.kp hzt_p0 e31 id
    have e32 : WrV cf28 (tf 6).toInt := e32
    have hwr := e32
    have hw0_e32 := hwr.1
    have e33 : 1 ≤ (cf28 30).toInt := e33
    have e34 : (cf28 33).toInt = (cf4 33).toInt := e34
    have e35 : (cf28 38).toInt = (cf4 38).toInt := e35
    have e36 : (cf28 48).toInt = (cf4 48).toInt := e36
    have e37 : (cf28 46).toInt = (cf4 46).toInt := e37
    have e38 : (cf28 47).toInt = (cf4 47).toInt := e38
    have e39 : (cf28 57).toInt = (cf4 57).toInt := e39
    have e40 : (cf28 37).toInt = (cf4 37).toInt := e40
    have e41 : (cf28 42).toInt = (cf4 42).toInt := e41
    have e42 : (cf28 43).toInt = (cf4 43).toInt := e42
    have e43 : (cf28 44).toInt = (cf4 44).toInt := e43
    have e44 : (cf28 45).toInt = (cf4 45).toInt := e44
    have e45 : (cf28 54).toInt = (cf4 54).toInt := e45
    have e46 : (cf28 55).toInt = (cf4 55).toInt := e46
    have e47 : (cf28 58).toInt = (cf4 58).toInt := e47
    have e48 : (cf28 59).toInt = (cf4 59).toInt := e48
    have e49 : (cf28 41).toInt = (cf4 41).toInt := e49
    have hw : pw D A s.heap H locs [wdP cs h r g tf ta pf na ma3 wa cf28 ca ef ea xf xa] := hw
    exact px_vret S hr hlk hAe hw (Nat.le_of_ble_eq_true rfl) (Nat.le_of_ble_eq_true rfl) (⟨ma3, cf28, rfl, (show KpE cf cf28 from hke), (show WrV cf28 (tf 6).toInt from hwr), (show (cf28 33).toInt = (cf 33).toInt from by first | exact oz_1687f4cc65 e9 e34 | omega), (show (cf28 38).toInt = (cf 38).toInt from by first | exact oz_1687f4cc65 e10 e35 | omega), (show (cf28 48).toInt = (cf 48).toInt from by first | exact oz_1687f4cc65 e11 e36 | omega), (show (cf28 46).toInt = (cf 46).toInt from by first | exact oz_1687f4cc65 e12 e37 | omega), (show (cf28 47).toInt = (cf 47).toInt from by first | exact oz_1687f4cc65 e13 e38 | omega), (show (cf28 57).toInt = (cf 57).toInt from by first | exact oz_1687f4cc65 e14 e39 | omega), (show Ann na ma0 ma3 from han), (show FrC lo hi ma ma3 from hfc), (show ZT0 cf28 (Gk ta ca na ma0 ns ys nf) na ma3 lo hi p0 from (zr_no (by first | with_reducible rfl | with_reducible assumption | omega)))⟩) d_Mpg_checkAlone_27
  · have nc22 : ¬ v6.toInt = (2 : Int) := mt (i_eq (x := v6) (y := 2)).mpr c22
    refine lv_iload_n S.x S.b d_Mpg_checkAlone_12 rfl (lv_at hl 0 rfl) ?_
    refine lv_iconst (v := 3) S.x S.b d_Mpg_checkAlone_13 (by decide) ?_
    refine lv_icmp_ne (tgt := 27) S.x S.b d_Mpg_checkAlone_14 (by decide) (fun c50 => ?_) (fun c50 => ?_)
    · have nc50 : ¬ v6.toInt = (3 : Int) := mt (i_eq (x := v6) (y := 3)).mpr c50
      exact px_vret S hr hlk hAe hw (Nat.le_of_ble_eq_true rfl) (Nat.le_of_ble_eq_true rfl) (⟨ma3, cf4, rfl, (show KpE cf cf4 from hke), (show WrV cf4 (tf 6).toInt from hwr), (show (cf4 33).toInt = (cf 33).toInt from by first | exact e9 | omega), (show (cf4 38).toInt = (cf 38).toInt from by first | exact e10 | omega), (show (cf4 48).toInt = (cf 48).toInt from by first | exact e11 | omega), (show (cf4 46).toInt = (cf 46).toInt from by first | exact e12 | omega), (show (cf4 47).toInt = (cf 47).toInt from by first | exact e13 | omega), (show (cf4 57).toInt = (cf 57).toInt from by first | exact e14 | omega), (show Ann na ma0 ma3 from han), (show FrC lo hi ma ma3 from hfc), (show ZT0 cf4 (Gk ta ca na ma0 ns ys nf) na ma3 lo hi p0 from (zt0_mk hzt_p0 (by first | with_reducible rfl | with_reducible assumption | omega)))⟩) d_Mpg_checkAlone_27
    · have nc50 : v6.toInt = (3 : Int) := (i_eq (x := v6) (y := 3)).mp c50
      refine lv_aload_n S.x S.b d_Mpg_checkAlone_17 rfl (lv_at hl 1 rfl) ?_
      refine lv_iconst (v := 3) S.x S.b d_Mpg_checkAlone_18 (by decide) ?_
      refine lv_aload_n S.x S.b d_Mpg_checkAlone_19 rfl (lv_at hl 1 rfl) ?_
      refine lv_iload_n S.x S.b d_Mpg_checkAlone_20 rfl (lv_at hl 2 rfl) ?_
      refine px_calli (pr := []) (px_runV (As := [.int p0]) (rest := [.int 3, .ref h]) S (c_mp_first l D cs h r g tf ta pf na ma3 wa cf4 ca ef ea xf xa p0  (show 0 ≤ p0.toInt from by first | exact hrg.2.2 | omega) (show p0.toInt < (pf 13).toInt from by first | exact oz_7319c2f99d g1 hrg.2.1 | omega) (show (pf 13).toInt ≤ 2100 from by first | exact g2 | omega) htk (FsI.le (N' := (pf 13).toInt) hfs (by first | with_reducible rfl | with_reducible assumption | omega)) _) hT (pr := []) (pcs := [wdP cs h r g tf ta pf na ma3 wa cf4 ca ef ea xf xa]) hw px_X.tt (px_recv hT hw 0 0 rfl rfl rfl) m13_9 m13_6 m13_8 ms_12_15 m1_21 q_Mpg_first ⟨show 0 + 1 ≤ (4 * d + 13) from by first | with_reducible rfl | with_reducible assumption | omega, show 8 + (2 + 11) + 0 ≤ (200 * d + 460) from by first | with_reducible rfl | with_reducible assumption | omega⟩ hl.1 rfl (Nat.le_of_ble_eq_true rfl) d_Mpg_checkAlone_21 ⟨Nat.le_of_ble_eq_true rfl, Nat.le_of_ble_eq_true rfl⟩) hw hA (fun v52 p51 H locs hp51 hw => ?_)
      obtain ⟨rfl, e53, e54⟩ := hp51
      have e53 : 0 ≤ v52.toInt := e53
      have e54 : v52.toInt < (tf 6).toInt := e54
      have hw : pw D A s.heap H locs [wdP cs h r g tf ta pf na ma3 wa cf4 ca ef ea xf xa] := hw
      have lv52 := Int32.le_toInt v52
      have uv52 := Int32.toInt_lt v52
      refine px_callv (pr := []) (px_runV (As := [.int 3, .int v52]) (rest := []) S (c_mp_bad l D cs h r g tf ta pf na ma3 wa ca ef ea xf xa cf4 3 v52  (show 1 ≤ (3 : Int) from by first | decide | omega) (show 0 ≤ v52.toInt from by first | exact e53 | omega) (show v52.toInt < (tf 6).toInt from by first | exact e54 | omega) htk hwr _) hT (pr := []) (pcs := [wdP cs h r g tf ta pf na ma3 wa cf4 ca ef ea xf xa]) hw px_X.tt (px_recv hT hw 0 0 rfl rfl rfl) m12_173 m12_170 m12_172 ms_11_12 m1_21 q_Mpg_bad ⟨show 0 + 1 ≤ (4 * d + 13) from by first | with_reducible rfl | with_reducible assumption | omega, show 8 + (3 + 11) + 0 ≤ (200 * d + 460) from by first | with_reducible rfl | with_reducible assumption | omega⟩ hl.1 rfl (Nat.le_of_ble_eq_true rfl) d_Mpg_checkAlone_24 ⟨Nat.le_of_ble_eq_true rfl, Nat.le_of_ble_eq_true rfl⟩) hw hA (fun p57 H locs hp57 hw => ?_)
      obtain ⟨cf56, rfl, e59, e60, e61, e62, e63, e64, e65, e66, e67, e68, e69, e70, e71, e72, e73, e74, e75, e76, e77⟩ := hp57
      have e59 : KpE cf4 cf56 := e59
      have hke := (hke).tr e59
      have hkz_e59 := e59.2
      have hzt_p0 := Zr.kp hzt_p0 e59 id
      have e60 : WrV cf56 (tf 6).toInt := e60
      have hwr := e60
      have hw0_e60 := hwr.1
      have e61 : 1 ≤ (cf56 30).toInt := e61
      have e62 : (cf56 33).toInt = (cf4 33).toInt := e62
      have e63 : (cf56 38).toInt = (cf4 38).toInt := e63
      have e64 : (cf56 48).toInt = (cf4 48).toInt := e64
      have e65 : (cf56 46).toInt = (cf4 46).toInt := e65
      have e66 : (cf56 47).toInt = (cf4 47).toInt := e66
      have e67 : (cf56 57).toInt = (cf4 57).toInt := e67
      have e68 : (cf56 37).toInt = (cf4 37).toInt := e68
      have e69 : (cf56 42).toInt = (cf4 42).toInt := e69
      have e70 : (cf56 43).toInt = (cf4 43).toInt := e70
      have e71 : (cf56 44).toInt = (cf4 44).toInt := e71
      have e72 : (cf56 45).toInt = (cf4 45).toInt := e72
      have e73 : (cf56 54).toInt = (cf4 54).toInt := e73
      have e74 : (cf56 55).toInt = (cf4 55).toInt := e74
      have e75 : (cf56 58).toInt = (cf4 58).toInt := e75
      have e76 : (cf56 59).toInt = (cf4 59).toInt := e76
      have e77 : (cf56 41).toInt = (cf4 41).toInt := e77
      have hw : pw D A s.heap H locs [wdP cs h r g tf ta pf na ma3 wa cf56 ca ef ea xf xa] := hw
      exact px_vret S hr hlk hAe hw (Nat.le_of_ble_eq_true rfl) (Nat.le_of_ble_eq_true rfl) (⟨ma3, cf56, rfl, (show KpE cf cf56 from hke), (show WrV cf56 (tf 6).toInt from hwr), (show (cf56 33).toInt = (cf 33).toInt from by first | exact oz_1687f4cc65 e9 e62 | omega), (show (cf56 38).toInt = (cf 38).toInt from by first | exact oz_1687f4cc65 e10 e63 | omega), (show (cf56 48).toInt = (cf 48).toInt from by first | exact oz_1687f4cc65 e11 e64 | omega), (show (cf56 46).toInt = (cf 46).toInt from by first | exact oz_1687f4cc65 e12 e65 | omega), (show (cf56 47).toInt = (cf 47).toInt from by first | exact oz_1687f4cc65 e13 e66 | omega), (show (cf56 57).toInt = (cf 57).toInt from by first | exact oz_1687f4cc65 e14 e67 | omega), (show Ann na ma0 ma3 from han), (show FrC lo hi ma ma3 from hfc), (show ZT0 cf56 (Gk ta ca na ma0 ns ys nf) na ma3 lo hi p0 from (zr_no (by first | with_reducible rfl | with_reducible assumption | omega)))⟩) d_Mpg_checkAlone_27
