theorem oz_af181dd945 {a0 a1 : Int} (h0 : a0 = a1 + 1) (h1 : a1 < 43) : a0 ≤ 43 := by omega
theorem oz_8d5a85dc0f {a0 : Int} {n1 : Nat} (h0 : (n1 : Int) = a0) : -1 ≤ a0 := by omega
theorem oz_f8f59e7e44 {a0 a2 : Int} {n1 : Nat} (h0 : 4 - a2 < ((n1 + 1 : Nat) : Int)) (h1 : a0 = a2 + 1) : 4 - a0 < (n1 : Int) := by omega
theorem oz_848179ad4e  : (-1 : Int) ≤ 42 := by omega
theorem oz_321eb83f2b {a0 : Int} (h0 : ¬ (43 : Int) ≤ a0) : a0 < 43 := by omega
theorem oz_e19df9ded9 {a0 : Int} (h0 : 0 ≤ a0) (h1 : a0 < 43) : 0 ≤ a0 ∧ a0 < ((43 : Nat) : Int) := by omega
abbrev b_Mpg_assigned : ByteArray := prog_16_method_110_code
def y_Mpg_assigned : MethodName := ⟨"HomeSystemModel$Program", "assigned", "(I)I"⟩
theorem d_Mpg_assigned_0 : decode b_Mpg_assigned 0 = .ok (.aload_n 0, 1) := by decide +kernel
theorem d_Mpg_assigned_1 : decode b_Mpg_assigned 1 = .ok (.getfield 133, 3) := by decide +kernel
theorem d_Mpg_assigned_4 : decode b_Mpg_assigned 4 = .ok (.aload_n 0, 1) := by decide +kernel
theorem d_Mpg_assigned_5 : decode b_Mpg_assigned 5 = .ok (.getfield 204, 3) := by decide +kernel
theorem d_Mpg_assigned_8 : decode b_Mpg_assigned 8 = .ok (.iload_n 1, 1) := by decide +kernel
theorem d_Mpg_assigned_9 : decode b_Mpg_assigned 9 = .ok (.iaload, 1) := by decide +kernel
theorem d_Mpg_assigned_10 : decode b_Mpg_assigned 10 = .ok (.aaload, 1) := by decide +kernel
theorem d_Mpg_assigned_11 : decode b_Mpg_assigned 11 = .ok (.astore_n 2, 1) := by decide +kernel
theorem d_Mpg_assigned_12 : decode b_Mpg_assigned 12 = .ok (.iconst 0, 1) := by decide +kernel
theorem d_Mpg_assigned_13 : decode b_Mpg_assigned 13 = .ok (.istore_n 3, 1) := by decide +kernel
theorem d_Mpg_assigned_14 : decode b_Mpg_assigned 14 = .ok (.iload_n 3, 1) := by decide +kernel
theorem d_Mpg_assigned_15 : decode b_Mpg_assigned 15 = .ok (.aload_n 0, 1) := by decide +kernel
theorem d_Mpg_assigned_16 : decode b_Mpg_assigned 16 = .ok (.getfield 133, 3) := by decide +kernel
theorem d_Mpg_assigned_19 : decode b_Mpg_assigned 19 = .ok (.arraylength, 1) := by decide +kernel
theorem d_Mpg_assigned_20 : decode b_Mpg_assigned 20 = .ok (.if_icmp .ge 96, 3) := by decide +kernel
theorem d_Mpg_assigned_23 : decode b_Mpg_assigned 23 = .ok (.aload_n 0, 1) := by decide +kernel
theorem d_Mpg_assigned_24 : decode b_Mpg_assigned 24 = .ok (.getfield 133, 3) := by decide +kernel
theorem d_Mpg_assigned_27 : decode b_Mpg_assigned 27 = .ok (.iload_n 3, 1) := by decide +kernel
theorem d_Mpg_assigned_28 : decode b_Mpg_assigned 28 = .ok (.aaload, 1) := by decide +kernel
theorem d_Mpg_assigned_29 : decode b_Mpg_assigned 29 = .ok (.invokevirtual 307, 3) := by decide +kernel
theorem d_Mpg_assigned_32 : decode b_Mpg_assigned 32 = .ok (.aload_n 2, 1) := by decide +kernel
theorem d_Mpg_assigned_33 : decode b_Mpg_assigned 33 = .ok (.invokevirtual 307, 3) := by decide +kernel
theorem d_Mpg_assigned_36 : decode b_Mpg_assigned 36 = .ok (.iconst 1, 1) := by decide +kernel
theorem d_Mpg_assigned_37 : decode b_Mpg_assigned 37 = .ok (.isub, 1) := by decide +kernel
theorem d_Mpg_assigned_38 : decode b_Mpg_assigned 38 = .ok (.if_icmp .ne 7, 3) := by decide +kernel
theorem d_Mpg_assigned_41 : decode b_Mpg_assigned 41 = .ok (.iconst 1, 1) := by decide +kernel
theorem d_Mpg_assigned_42 : decode b_Mpg_assigned 42 = .ok (.goto 4, 3) := by decide +kernel
theorem d_Mpg_assigned_45 : decode b_Mpg_assigned 45 = .ok (.iconst 0, 1) := by decide +kernel
theorem d_Mpg_assigned_46 : decode b_Mpg_assigned 46 = .ok (.istore 4, 2) := by decide +kernel
theorem d_Mpg_assigned_48 : decode b_Mpg_assigned 48 = .ok (.iconst 0, 1) := by decide +kernel
theorem d_Mpg_assigned_49 : decode b_Mpg_assigned 49 = .ok (.istore 5, 2) := by decide +kernel
theorem d_Mpg_assigned_51 : decode b_Mpg_assigned 51 = .ok (.iload 5, 2) := by decide +kernel
theorem d_Mpg_assigned_53 : decode b_Mpg_assigned 53 = .ok (.aload_n 0, 1) := by decide +kernel
theorem d_Mpg_assigned_54 : decode b_Mpg_assigned 54 = .ok (.getfield 133, 3) := by decide +kernel
theorem d_Mpg_assigned_57 : decode b_Mpg_assigned 57 = .ok (.iload_n 3, 1) := by decide +kernel
theorem d_Mpg_assigned_58 : decode b_Mpg_assigned 58 = .ok (.aaload, 1) := by decide +kernel
theorem d_Mpg_assigned_59 : decode b_Mpg_assigned 59 = .ok (.invokevirtual 307, 3) := by decide +kernel
theorem d_Mpg_assigned_62 : decode b_Mpg_assigned 62 = .ok (.if_icmp .ge 41, 3) := by decide +kernel
theorem d_Mpg_assigned_65 : decode b_Mpg_assigned 65 = .ok (.iload 4, 2) := by decide +kernel
theorem d_Mpg_assigned_67 : decode b_Mpg_assigned 67 = .ok (.ifCond .eq 36, 3) := by decide +kernel
theorem d_Mpg_assigned_70 : decode b_Mpg_assigned 70 = .ok (.aload_n 0, 1) := by decide +kernel
theorem d_Mpg_assigned_71 : decode b_Mpg_assigned 71 = .ok (.getfield 133, 3) := by decide +kernel
theorem d_Mpg_assigned_74 : decode b_Mpg_assigned 74 = .ok (.iload_n 3, 1) := by decide +kernel
theorem d_Mpg_assigned_75 : decode b_Mpg_assigned 75 = .ok (.aaload, 1) := by decide +kernel
theorem d_Mpg_assigned_76 : decode b_Mpg_assigned 76 = .ok (.iload 5, 2) := by decide +kernel
theorem d_Mpg_assigned_78 : decode b_Mpg_assigned 78 = .ok (.invokevirtual 310, 3) := by decide +kernel
theorem d_Mpg_assigned_81 : decode b_Mpg_assigned 81 = .ok (.aload_n 2, 1) := by decide +kernel
theorem d_Mpg_assigned_82 : decode b_Mpg_assigned 82 = .ok (.iload 5, 2) := by decide +kernel
theorem d_Mpg_assigned_84 : decode b_Mpg_assigned 84 = .ok (.invokevirtual 310, 3) := by decide +kernel
theorem d_Mpg_assigned_87 : decode b_Mpg_assigned 87 = .ok (.if_icmp .ne 7, 3) := by decide +kernel
theorem d_Mpg_assigned_90 : decode b_Mpg_assigned 90 = .ok (.iconst 1, 1) := by decide +kernel
theorem d_Mpg_assigned_91 : decode b_Mpg_assigned 91 = .ok (.goto 4, 3) := by decide +kernel
theorem d_Mpg_assigned_94 : decode b_Mpg_assigned 94 = .ok (.iconst 0, 1) := by decide +kernel
theorem d_Mpg_assigned_95 : decode b_Mpg_assigned 95 = .ok (.istore 4, 2) := by decide +kernel
theorem d_Mpg_assigned_97 : decode b_Mpg_assigned 97 = .ok (.iinc 5 1, 3) := by decide +kernel
theorem d_Mpg_assigned_100 : decode b_Mpg_assigned 100 = .ok (.goto (-49), 3) := by decide +kernel
theorem d_Mpg_assigned_103 : decode b_Mpg_assigned 103 = .ok (.iload 4, 2) := by decide +kernel
theorem d_Mpg_assigned_105 : decode b_Mpg_assigned 105 = .ok (.ifCond .eq 5, 3) := by decide +kernel
theorem d_Mpg_assigned_108 : decode b_Mpg_assigned 108 = .ok (.iload_n 3, 1) := by decide +kernel
theorem d_Mpg_assigned_109 : decode b_Mpg_assigned 109 = .ok (.ireturn, 1) := by decide +kernel
theorem d_Mpg_assigned_110 : decode b_Mpg_assigned 110 = .ok (.iinc 3 1, 3) := by decide +kernel
theorem d_Mpg_assigned_113 : decode b_Mpg_assigned 113 = .ok (.goto (-99), 3) := by decide +kernel
theorem d_Mpg_assigned_116 : decode b_Mpg_assigned 116 = .ok (.iconst (-1), 1) := by decide +kernel
theorem d_Mpg_assigned_117 : decode b_Mpg_assigned 117 = .ok (.ireturn, 1) := by decide +kernel
theorem q_Mpg_assigned : px_y y_Mpg_assigned 1 := by unfold px_y; decide +kernel
set_option maxHeartbeats 4000000 in
set_option maxRecDepth 100000 in
theorem c_mp_assigned (l : Launch) (D : va_G) (cs : Nat → ClassId) (h : Nat) (r : Nat → Nat) (g : Nat → Nat → Option Nat) (tf : Nat → Int32) (ta : Nat → Nat → Int32) (pf : Nat → Int32) (na : Nat → Nat → Int32) (ma : Nat → Nat → Int32) (wa : Nat → Nat → Int32) (cf : Nat → Int32) (ca : Nat → Nat → Int32) (ef : Nat → Int32) (ea : Nat → Nat → Int32) (xf : Nat → Int32) (xa : Nat → Nat → Int32) (p0 : Int32)  (g0 : 0 ≤ p0.toInt) (g1 : p0.toInt < (tf 6).toInt) (g2 : (tf 6).toInt ≤ 2049) (g3 : so ta p0 = 5) (htk : TkI tf ta) : MetI l y_Mpg_assigned b_Mpg_assigned 6 (.int) D cs 4 160 (0) (0) [.ref h, .int p0] [wdP cs h r g tf ta pf na ma wa cf ca ef ea xf xa] (oX (fun A U H => (oP A g U H)) [wdP cs h r g tf ta pf na ma wa cf ca ef ea xf xa]) (fun v ps => (ps = [wdP cs h r g tf ta pf na ma wa cf ca ef ea xf xa]) ∧ (-1 ≤ v.toInt) ∧ (v.toInt ≤ 42)) := by
  refine px_enter (by decide) (Nat.le_of_ble_eq_true rfl) ?_
  intro p e s m below meth c A ls hAe S hr hlk hnm hA hT hX hw hl
  have hl : lv_has ls 6 [(0, .ref h), (1, .int p0)] := hl
  have lp0 := Int32.le_toInt p0
  have up0 := Int32.toInt_lt p0
  have cstm1 : ((-1) : Int32).toInt = (-1) := rfl
  have cst0 : (0 : Int32).toInt = 0 := rfl
  have cst1 : (1 : Int32).toInt = 1 := rfl
  have hX : (fun A U H => (oP A g U H)) A s s.heap := by rw [hAe]; exact hX
  have hP := hX
  have hZ := hP.1
  have hF0 := hP.2.1
  have hwm := tk_w5 htk (x := p0) (by omega) (by omega) (z := ta 10 p0.toNatClampNeg) rfl (by omega)
  have hclm := cl_nat (x := ta 10 p0.toNatClampNeg) (by omega)
  obtain ⟨skm, hgm, stm, sbm, hSm⟩ := oP_1 hP (i := (ta 10 p0.toNatClampNeg).toNatClampNeg) (by omega)
  have hmm := len_1 (i := (ta 10 p0.toNatClampNeg).toNatClampNeg) (by omega)
  have J14 : ∀ (n_14 : Nat)  (x14_3 : Int32) (H : Heap) (locs : List Loc) (ls : Array Slot), (0 ≤ x14_3.toInt) → (x14_3.toInt ≤ 43) → 43 - x14_3.toInt < (n_14 : Int) → pw D A s.heap H locs [wdP cs h r g tf ta pf na ma wa cf ca ef ea xf xa] → lv_has ls 6 [(0, .ref h), (1, .int p0), (2, .ref skm), (3, .int x14_3)] → W p l e { frames := 4, cells := 0, slots := 0, locals := 160 } s m [.ref h, .int p0].toArray below meth c H locs 0 0 (MQ below (va_Qi (fun v ps => (ps = [wdP cs h r g tf ta pf na ma wa cf ca ef ea xf xa]) ∧ (-1 ≤ v.toInt) ∧ (v.toInt ≤ 42)) (pc_B D (va_A ([wdP cs h r g tf ta pf na ma wa cf ca ef ea xf xa] : List va_W).flatten s.heap.size)) (va_A ([wdP cs h r g tf ta pf na ma wa cf ca ef ea xf xa] : List va_W).flatten s.heap.size)) [.ref h, .int p0].toArray s 0 0 A) (F0 m 14 ls []) := by
    intro  n_14
    induction n_14 with
    | zero =>
      intro x14_3 H locs ls k14_0 k14_1 hm hw hl
      have lx14_3 := Int32.le_toInt x14_3
      have ux14_3 := Int32.toInt_lt x14_3
      exact absurd hm (by omega)
    | succ n_14 ih14 =>
      intro x14_3 H locs ls k14_0 k14_1 hm hw hl
      have lx14_3 := Int32.le_toInt x14_3
      have ux14_3 := Int32.toInt_lt x14_3
      have J51 : ∀ (n_51 : Nat)  (x51_3 x51_4 x51_5 : Int32) (H : Heap) (locs : List Loc) (ls : Array Slot), (x51_3.toInt = x14_3.toInt) → (0 ≤ x51_3.toInt) → (x51_3.toInt < 43) → (0 ≤ x51_4.toInt) → (x51_4.toInt ≤ 1) → (0 ≤ x51_5.toInt) → (x51_5.toInt ≤ 3) → (x51_4.toInt = 1 → (mlen x51_3.toNatClampNeg : Int) = (mlen (ta 10 p0.toNatClampNeg).toNatClampNeg : Int) - 1) → 4 - x51_5.toInt < (n_51 : Int) → pw D A s.heap H locs [wdP cs h r g tf ta pf na ma wa cf ca ef ea xf xa] → lv_has ls 6 [(0, .ref h), (1, .int p0), (2, .ref skm), (3, .int x51_3), (4, .int x51_4), (5, .int x51_5)] → W p l e { frames := 4, cells := 0, slots := 0, locals := 160 } s m [.ref h, .int p0].toArray below meth c H locs 0 0 (MQ below (va_Qi (fun v ps => (ps = [wdP cs h r g tf ta pf na ma wa cf ca ef ea xf xa]) ∧ (-1 ≤ v.toInt) ∧ (v.toInt ≤ 42)) (pc_B D (va_A ([wdP cs h r g tf ta pf na ma wa cf ca ef ea xf xa] : List va_W).flatten s.heap.size)) (va_A ([wdP cs h r g tf ta pf na ma wa cf ca ef ea xf xa] : List va_W).flatten s.heap.size)) [.ref h, .int p0].toArray s 0 0 A) (F0 m 51 ls []) := by
        intro  n_51
        induction n_51 with
        | zero =>
          intro x51_3 x51_4 x51_5 H locs ls k51_0 k51_1 k51_2 k51_3 k51_4 k51_5 k51_6 k51_7 hm hw hl
          have lx51_3 := Int32.le_toInt x51_3
          have ux51_3 := Int32.toInt_lt x51_3
          have lx51_4 := Int32.le_toInt x51_4
          have ux51_4 := Int32.toInt_lt x51_4
          have lx51_5 := Int32.le_toInt x51_5
          have ux51_5 := Int32.toInt_lt x51_5
          exact absurd hm (by omega)
        | succ n_51 ih51 =>
          intro x51_3 x51_4 x51_5 H locs ls k51_0 k51_1 k51_2 k51_3 k51_4 k51_5 k51_6 k51_7 hm hw hl
          have lx51_3 := Int32.le_toInt x51_3
          have ux51_3 := Int32.toInt_lt x51_3
          have lx51_4 := Int32.le_toInt x51_4
          have ux51_4 := Int32.toInt_lt x51_4
          have lx51_5 := Int32.le_toInt x51_5
          have ux51_5 := Int32.toInt_lt x51_5
          refine lv_iload S.x S.b d_Mpg_assigned_51 (lv_at hl 5 rfl) ?_
          refine lv_aload_n S.x S.b d_Mpg_assigned_53 rfl (lv_at hl 0 rfl) ?_
          refine gP_1 S hT hw 0 rfl m9_224 d_Mpg_assigned_54 ?_
          refine lv_iload_n S.x S.b d_Mpg_assigned_57 rfl (lv_at hl 3 rfl) ?_
          first | have hclsk1 := cl_nat (x := x51_3) (k51_1) | (have hclsk1 := cl_nat (x := x51_3) (by first | exact k51_1 | omega))
          obtain ⟨sk1, hgsk1, st2, hSsk1⟩ := oP_1B hP (i := x51_3.toNatClampNeg) (by omega)
          have hmsk1 := len_1 (i := x51_3.toNatClampNeg) (by omega)
          refine px_aaldS S hT hw 0 2 11 (n := 43) (f := (g 1)) rfl rfl rfl (x := x51_3) (vp_in_iff.mpr (by first | exact oz_00605904cf hclsk1 k51_2 | (constructor <;> omega))) hgsk1 d_Mpg_assigned_58 ?_
          refine px_calli (pr := [wdP cs h r g tf ta pf na ma wa cf ca ef ea xf xa]) (px_runV (As := []) (rest := [.int x51_5]) S (c_String_length l D cs sk1 st2 (mlen x51_3.toNatClampNeg) (mby x51_3.toNatClampNeg)   (show (mlen x51_3.toNatClampNeg) ≤ 1000000 from by omega) _) hT (pr := [wdP cs h r g tf ta pf na ma wa cf ca ef ea xf xa]) (pcs := []) hw (oX_call (P := (fun A U H => (oZ A U H) ∧ (oS A sk1 st2 (mlen x51_3.toNatClampNeg) (mby x51_3.toNatClampNeg) U H))) (pr := [wdP cs h r g tf ta pf na ma wa cf ca ef ea xf xa]) (oG_and oG_Z oG_S) hw hA ⟨hZ, hSsk1⟩) (oS_recv hw hSsk1) m1_58 m11_157 m1_56 m1_57 m1_3 q_String_length ⟨Nat.le_of_ble_eq_true rfl, Nat.le_of_ble_eq_true rfl⟩ hl.1 rfl (Nat.le_of_ble_eq_true rfl) d_Mpg_assigned_59 ⟨Nat.le_of_ble_eq_true rfl, Nat.le_of_ble_eq_true rfl⟩) hw hA (fun v5 p4 H locs hp4 hw => ?_)
          obtain ⟨rfl, e6, e7⟩ := hp4
          have e6 : v5.toInt = ((mlen x51_3.toNatClampNeg) : Int) := e6
          have e7 : R_String_length (mlen x51_3.toNatClampNeg) v5 := e7
          have lv5 := Int32.le_toInt v5
          have uv5 := Int32.toInt_lt v5
          refine lv_icmp_ge (tgt := 103) S.x S.b d_Mpg_assigned_62 (by decide) (fun c8 => ?_) (fun c8 => ?_)
          · have nc8 : v5.toInt ≤ x51_5.toInt := (i_le (x := v5) (y := x51_5)).mp c8
            refine lv_iload S.x S.b d_Mpg_assigned_103 (lv_at hl 4 rfl) ?_
            refine lv_if_eq (tgt := 110) S.x S.b d_Mpg_assigned_105 (by decide) (fun c10 => ?_) (fun c10 => ?_)
            · have nc10 : x51_4.toInt = (0 : Int) := (i_eq (x := x51_4) (y := 0)).mp c10
              obtain ⟨z12, ez12⟩ : ∃ y : Int32, y = x51_3 + 1 := ⟨_, rfl⟩
              have tz12 : z12.toInt = (x51_3.toInt + 1 + 2147483648) % 4294967296 - 2147483648 := by rw [ez12]; exact i_add x51_3 1
              have lz12 := Int32.le_toInt z12
              have uz12 := Int32.toInt_lt z12
              try replace tz12 : z12.toInt = x51_3.toInt + 1 := by omega
              refine lv_iinc (v := z12) (lv' := [(3, .int z12), (0, .ref h), (1, .int p0), (2, .ref skm), (4, .int x51_4), (5, .int x51_5)]) S.x S.b d_Mpg_assigned_110 hl (k := 3) rfl (by rw [ez12]; rfl) (by decide) rfl (fun ls hl => ?_)
              refine lv_goto (tgt := 14) S.x S.b d_Mpg_assigned_113 (by decide) ?_
              first | exact ih14 z12 _ _ ls (show 0 ≤ z12.toInt from (oz_9fa9825dcd tz12 hclsk1)) (show z12.toInt ≤ 43 from (oz_af181dd945 tz12 k51_2)) (show 43 - z12.toInt < (n_14 : Int) from by omega) hw (lv_sub hl [1, 2, 3, 0] rfl) | (exact ih14 z12 _ _ ls (show 0 ≤ z12.toInt from by first | exact oz_9fa9825dcd tz12 hclsk1 | omega) (show z12.toInt ≤ 43 from by first | exact oz_af181dd945 tz12 k51_2 | omega) (show 43 - z12.toInt < (n_14 : Int) from by omega) hw (lv_sub hl [1, 2, 3, 0] rfl))
            · have nc10 : ¬ x51_4.toInt = (0 : Int) := mt (i_eq (x := x51_4) (y := 0)).mpr c10
              refine lv_iload_n S.x S.b d_Mpg_assigned_108 rfl (lv_at hl 3 rfl) ?_
              first | exact px_iret (v := x51_3) S hr rfl hlk hAe hw (Nat.le_of_ble_eq_true rfl) (Nat.le_of_ble_eq_true rfl) (⟨rfl, (show -1 ≤ x51_3.toInt from (oz_8d5a85dc0f hclsk1)), (show x51_3.toInt ≤ 42 from (oz_2466d5c0bc k51_2))⟩) d_Mpg_assigned_109 | (exact px_iret (v := x51_3) S hr rfl hlk hAe hw (Nat.le_of_ble_eq_true rfl) (Nat.le_of_ble_eq_true rfl) (⟨rfl, (show -1 ≤ x51_3.toInt from by first | exact oz_8d5a85dc0f hclsk1 | omega), (show x51_3.toInt ≤ 42 from by first | exact oz_2466d5c0bc k51_2 | omega)⟩) d_Mpg_assigned_109)
          · have nc8 : ¬ v5.toInt ≤ x51_5.toInt := mt (i_le (x := v5) (y := x51_5)).mpr c8
            refine lv_iload S.x S.b d_Mpg_assigned_65 (lv_at hl 4 rfl) ?_
            refine lv_if_eq (tgt := 103) S.x S.b d_Mpg_assigned_67 (by decide) (fun c13 => ?_) (fun c13 => ?_)
            · have nc13 : x51_4.toInt = (0 : Int) := (i_eq (x := x51_4) (y := 0)).mp c13
              refine lv_iload S.x S.b d_Mpg_assigned_103 (lv_at hl 4 rfl) ?_
              refine lv_if_eq (tgt := 110) S.x S.b d_Mpg_assigned_105 (by decide) (fun c15 => ?_) (fun c15 => ?_)
              · have nc15 : x51_4.toInt = (0 : Int) := (i_eq (x := x51_4) (y := 0)).mp c15
                obtain ⟨z17, ez17⟩ : ∃ y : Int32, y = x51_3 + 1 := ⟨_, rfl⟩
                have tz17 : z17.toInt = (x51_3.toInt + 1 + 2147483648) % 4294967296 - 2147483648 := by rw [ez17]; exact i_add x51_3 1
                have lz17 := Int32.le_toInt z17
                have uz17 := Int32.toInt_lt z17
                try replace tz17 : z17.toInt = x51_3.toInt + 1 := by omega
                refine lv_iinc (v := z17) (lv' := [(3, .int z17), (0, .ref h), (1, .int p0), (2, .ref skm), (4, .int x51_4), (5, .int x51_5)]) S.x S.b d_Mpg_assigned_110 hl (k := 3) rfl (by rw [ez17]; rfl) (by decide) rfl (fun ls hl => ?_)
                refine lv_goto (tgt := 14) S.x S.b d_Mpg_assigned_113 (by decide) ?_
                first | exact ih14 z17 _ _ ls (show 0 ≤ z17.toInt from (oz_9fa9825dcd tz17 hclsk1)) (show z17.toInt ≤ 43 from (oz_af181dd945 tz17 k51_2)) (show 43 - z17.toInt < (n_14 : Int) from by omega) hw (lv_sub hl [1, 2, 3, 0] rfl) | (exact ih14 z17 _ _ ls (show 0 ≤ z17.toInt from by first | exact oz_9fa9825dcd tz17 hclsk1 | omega) (show z17.toInt ≤ 43 from by first | exact oz_af181dd945 tz17 k51_2 | omega) (show 43 - z17.toInt < (n_14 : Int) from by omega) hw (lv_sub hl [1, 2, 3, 0] rfl))
              · have nc15 : ¬ x51_4.toInt = (0 : Int) := mt (i_eq (x := x51_4) (y := 0)).mpr c15
                refine lv_iload_n S.x S.b d_Mpg_assigned_108 rfl (lv_at hl 3 rfl) ?_
                first | exact px_iret (v := x51_3) S hr rfl hlk hAe hw (Nat.le_of_ble_eq_true rfl) (Nat.le_of_ble_eq_true rfl) (⟨rfl, (show -1 ≤ x51_3.toInt from (oz_8d5a85dc0f hclsk1)), (show x51_3.toInt ≤ 42 from (oz_2466d5c0bc k51_2))⟩) d_Mpg_assigned_109 | (exact px_iret (v := x51_3) S hr rfl hlk hAe hw (Nat.le_of_ble_eq_true rfl) (Nat.le_of_ble_eq_true rfl) (⟨rfl, (show -1 ≤ x51_3.toInt from by first | exact oz_8d5a85dc0f hclsk1 | omega), (show x51_3.toInt ≤ 42 from by first | exact oz_2466d5c0bc k51_2 | omega)⟩) d_Mpg_assigned_109)
            · have nc13 : ¬ x51_4.toInt = (0 : Int) := mt (i_eq (x := x51_4) (y := 0)).mpr c13
              refine lv_aload_n S.x S.b d_Mpg_assigned_70 rfl (lv_at hl 0 rfl) ?_
              refine gP_1 S hT hw 0 rfl m9_224 d_Mpg_assigned_71 ?_
              refine lv_iload_n S.x S.b d_Mpg_assigned_74 rfl (lv_at hl 3 rfl) ?_
              first | have hclsk18 := cl_nat (x := x51_3) (k51_1) | (have hclsk18 := cl_nat (x := x51_3) (by first | exact k51_1 | omega))
              obtain ⟨sk18, hgsk18, st19, hSsk18⟩ := oP_1B hP (i := x51_3.toNatClampNeg) (by omega)
              have hmsk18 := len_1 (i := x51_3.toNatClampNeg) (by omega)
              refine px_aaldS S hT hw 0 2 11 (n := 43) (f := (g 1)) rfl rfl rfl (x := x51_3) (vp_in_iff.mpr (by first | exact oz_00605904cf hclsk1 k51_2 | (constructor <;> omega))) hgsk18 d_Mpg_assigned_75 ?_
              refine lv_iload S.x S.b d_Mpg_assigned_76 (lv_at hl 5 rfl) ?_
              first | refine px_calli (pr := [wdP cs h r g tf ta pf na ma wa cf ca ef ea xf xa]) (px_runV (As := [.int x51_5]) (rest := []) S (c_String_charAt l D cs sk18 st19 (mlen x51_3.toNatClampNeg) (mby x51_3.toNatClampNeg) x51_5  (show (mlen x51_3.toNatClampNeg) ≤ 1000000 from by omega) (show 0 ≤ x51_5.toInt from k51_5) (show x51_5.toInt < ((mlen x51_3.toNatClampNeg) : Int) from (oz_56467b673d e6 nc8)) _) hT (pr := [wdP cs h r g tf ta pf na ma wa cf ca ef ea xf xa]) (pcs := []) hw (oX_call (P := (fun A U H => (oF A U H) ∧ (oZ A U H) ∧ (oS A sk18 st19 (mlen x51_3.toNatClampNeg) (mby x51_3.toNatClampNeg) U H))) (pr := [wdP cs h r g tf ta pf na ma wa cf ca ef ea xf xa]) (oG_and oG_F (oG_and oG_Z oG_S)) hw hA ⟨hF0, hZ, hSsk18⟩) (oS_recv hw hSsk18) m1_68 m11_162 m1_66 m1_67 m1_3 q_String_charAt ⟨Nat.le_of_ble_eq_true rfl, Nat.le_of_ble_eq_true rfl⟩ hl.1 rfl (Nat.le_of_ble_eq_true rfl) d_Mpg_assigned_78 ⟨Nat.le_of_ble_eq_true rfl, Nat.le_of_ble_eq_true rfl⟩) hw hA (fun v22 p21 H locs hp21 hw => ?_) | (refine px_calli (pr := [wdP cs h r g tf ta pf na ma wa cf ca ef ea xf xa]) (px_runV (As := [.int x51_5]) (rest := []) S (c_String_charAt l D cs sk18 st19 (mlen x51_3.toNatClampNeg) (mby x51_3.toNatClampNeg) x51_5  (show (mlen x51_3.toNatClampNeg) ≤ 1000000 from by omega) (show 0 ≤ x51_5.toInt from by first | exact k51_5 | omega) (show x51_5.toInt < ((mlen x51_3.toNatClampNeg) : Int) from by first | exact oz_56467b673d e6 nc8 | omega) _) hT (pr := [wdP cs h r g tf ta pf na ma wa cf ca ef ea xf xa]) (pcs := []) hw (oX_call (P := (fun A U H => (oF A U H) ∧ (oZ A U H) ∧ (oS A sk18 st19 (mlen x51_3.toNatClampNeg) (mby x51_3.toNatClampNeg) U H))) (pr := [wdP cs h r g tf ta pf na ma wa cf ca ef ea xf xa]) (oG_and oG_F (oG_and oG_Z oG_S)) hw hA ⟨hF0, hZ, hSsk18⟩) (oS_recv hw hSsk18) m1_68 m11_162 m1_66 m1_67 m1_3 q_String_charAt ⟨Nat.le_of_ble_eq_true rfl, Nat.le_of_ble_eq_true rfl⟩ hl.1 rfl (Nat.le_of_ble_eq_true rfl) d_Mpg_assigned_78 ⟨Nat.le_of_ble_eq_true rfl, Nat.le_of_ble_eq_true rfl⟩) hw hA (fun v22 p21 H locs hp21 hw => ?_))
              obtain ⟨rfl, e23, e24⟩ := hp21
              have e23 : narrow .char (.int v22) = .int v22 := e23
              have e24 : R_String_charAt (mby x51_3.toNatClampNeg) x51_5 v22 := e24
              have lv22 := Int32.le_toInt v22
              have uv22 := Int32.toInt_lt v22
              refine lv_aload_n S.x S.b d_Mpg_assigned_81 rfl (lv_at hl 2 rfl) ?_
              refine lv_iload S.x S.b d_Mpg_assigned_82 (lv_at hl 5 rfl) ?_
              first | refine px_calli (pr := [wdP cs h r g tf ta pf na ma wa cf ca ef ea xf xa]) (px_runV (As := [.int x51_5]) (rest := [.int v22]) S (c_String_charAt l D cs skm stm (mlen (ta 10 p0.toNatClampNeg).toNatClampNeg) sbm x51_5  (show (mlen (ta 10 p0.toNatClampNeg).toNatClampNeg) ≤ 1000000 from by omega) (show 0 ≤ x51_5.toInt from k51_5) (show x51_5.toInt < ((mlen (ta 10 p0.toNatClampNeg).toNatClampNeg) : Int) from by omega) _) hT (pr := [wdP cs h r g tf ta pf na ma wa cf ca ef ea xf xa]) (pcs := []) hw (oX_call (P := (fun A U H => (oF A U H) ∧ (oZ A U H) ∧ (oS A skm stm (mlen (ta 10 p0.toNatClampNeg).toNatClampNeg) sbm U H))) (pr := [wdP cs h r g tf ta pf na ma wa cf ca ef ea xf xa]) (oG_and oG_F (oG_and oG_Z oG_S)) hw hA ⟨hF0, hZ, hSm⟩) (oS_recv hw hSm) m1_68 m11_162 m1_66 m1_67 m1_3 q_String_charAt ⟨Nat.le_of_ble_eq_true rfl, Nat.le_of_ble_eq_true rfl⟩ hl.1 rfl (Nat.le_of_ble_eq_true rfl) d_Mpg_assigned_84 ⟨Nat.le_of_ble_eq_true rfl, Nat.le_of_ble_eq_true rfl⟩) hw hA (fun v26 p25 H locs hp25 hw => ?_) | (refine px_calli (pr := [wdP cs h r g tf ta pf na ma wa cf ca ef ea xf xa]) (px_runV (As := [.int x51_5]) (rest := [.int v22]) S (c_String_charAt l D cs skm stm (mlen (ta 10 p0.toNatClampNeg).toNatClampNeg) sbm x51_5  (show (mlen (ta 10 p0.toNatClampNeg).toNatClampNeg) ≤ 1000000 from by omega) (show 0 ≤ x51_5.toInt from by first | exact k51_5 | omega) (show x51_5.toInt < ((mlen (ta 10 p0.toNatClampNeg).toNatClampNeg) : Int) from by omega) _) hT (pr := [wdP cs h r g tf ta pf na ma wa cf ca ef ea xf xa]) (pcs := []) hw (oX_call (P := (fun A U H => (oF A U H) ∧ (oZ A U H) ∧ (oS A skm stm (mlen (ta 10 p0.toNatClampNeg).toNatClampNeg) sbm U H))) (pr := [wdP cs h r g tf ta pf na ma wa cf ca ef ea xf xa]) (oG_and oG_F (oG_and oG_Z oG_S)) hw hA ⟨hF0, hZ, hSm⟩) (oS_recv hw hSm) m1_68 m11_162 m1_66 m1_67 m1_3 q_String_charAt ⟨Nat.le_of_ble_eq_true rfl, Nat.le_of_ble_eq_true rfl⟩ hl.1 rfl (Nat.le_of_ble_eq_true rfl) d_Mpg_assigned_84 ⟨Nat.le_of_ble_eq_true rfl, Nat.le_of_ble_eq_true rfl⟩) hw hA (fun v26 p25 H locs hp25 hw => ?_))
              obtain ⟨rfl, e27, e28⟩ := hp25
              have e27 : narrow .char (.int v26) = .int v26 := e27
              have e28 : R_String_charAt sbm x51_5 v26 := e28
              have lv26 := Int32.le_toInt v26
              have uv26 := Int32.toInt_lt v26
              refine lv_icmp_ne (tgt := 94) S.x S.b d_Mpg_assigned_87 (by decide) (fun c29 => ?_) (fun c29 => ?_)
              · have nc29 : ¬ v22.toInt = v26.toInt := mt (i_eq (x := v22) (y := v26)).mpr c29
                refine lv_iconst (v := 0) S.x S.b d_Mpg_assigned_94 (by decide) ?_
                refine lv_istore (lv' := [(4, .int 0), (0, .ref h), (1, .int p0), (2, .ref skm), (3, .int x51_3), (5, .int x51_5)]) S.x S.b d_Mpg_assigned_95 hl (by decide) rfl (fun ls hl => ?_)
                obtain ⟨z31, ez31⟩ : ∃ y : Int32, y = x51_5 + 1 := ⟨_, rfl⟩
                have tz31 : z31.toInt = (x51_5.toInt + 1 + 2147483648) % 4294967296 - 2147483648 := by rw [ez31]; exact i_add x51_5 1
                have lz31 := Int32.le_toInt z31
                have uz31 := Int32.toInt_lt z31
                try replace tz31 : z31.toInt = x51_5.toInt + 1 := by omega
                refine lv_iinc (v := z31) (lv' := [(5, .int z31), (4, .int 0), (0, .ref h), (1, .int p0), (2, .ref skm), (3, .int x51_3)]) S.x S.b d_Mpg_assigned_97 hl (k := 5) rfl (by rw [ez31]; rfl) (by decide) rfl (fun ls hl => ?_)
                refine lv_goto (tgt := 51) S.x S.b d_Mpg_assigned_100 (by decide) ?_
                first | exact ih51 x51_3 (0 : Int32) z31 _ _ ls (show x51_3.toInt = x14_3.toInt from k51_0) (show 0 ≤ x51_3.toInt from k51_1) (show x51_3.toInt < 43 from k51_2) (show 0 ≤ (0 : Int) from oz_5a341f00aa) (show (0 : Int) ≤ 1 from oz_6e68cd0f48) (show 0 ≤ z31.toInt from (oz_ae613611c0 tz31 k51_5)) (show z31.toInt ≤ 3 from by omega) (show (0 : Int) = 1 → (mlen x51_3.toNatClampNeg : Int) = (mlen (ta 10 p0.toNatClampNeg).toNatClampNeg : Int) - 1 from by omega) (show 4 - z31.toInt < (n_51 : Int) from (oz_f8f59e7e44 hm tz31)) hw (lv_sub hl [2, 3, 4, 5, 1, 0] rfl) | (exact ih51 x51_3 (0 : Int32) z31 _ _ ls (show x51_3.toInt = x14_3.toInt from by first | exact k51_0 | omega) (show 0 ≤ x51_3.toInt from by first | exact k51_1 | omega) (show x51_3.toInt < 43 from by first | exact k51_2 | omega) (show 0 ≤ (0 : Int) from by first | exact oz_5a341f00aa | omega) (show (0 : Int) ≤ 1 from by first | exact oz_6e68cd0f48 | omega) (show 0 ≤ z31.toInt from by first | exact oz_ae613611c0 tz31 k51_5 | omega) (show z31.toInt ≤ 3 from by omega) (show (0 : Int) = 1 → (mlen x51_3.toNatClampNeg : Int) = (mlen (ta 10 p0.toNatClampNeg).toNatClampNeg : Int) - 1 from by omega) (show 4 - z31.toInt < (n_51 : Int) from by first | exact oz_f8f59e7e44 hm tz31 | omega) hw (lv_sub hl [2, 3, 4, 5, 1, 0] rfl))
              · have nc29 : v22.toInt = v26.toInt := (i_eq (x := v22) (y := v26)).mp c29
                refine lv_iconst (v := 1) S.x S.b d_Mpg_assigned_90 (by decide) ?_
                refine lv_goto (tgt := 95) S.x S.b d_Mpg_assigned_91 (by decide) ?_
                refine lv_istore (lv' := [(4, .int 1), (0, .ref h), (1, .int p0), (2, .ref skm), (3, .int x51_3), (5, .int x51_5)]) S.x S.b d_Mpg_assigned_95 hl (by decide) rfl (fun ls hl => ?_)
                obtain ⟨z32, ez32⟩ : ∃ y : Int32, y = x51_5 + 1 := ⟨_, rfl⟩
                have tz32 : z32.toInt = (x51_5.toInt + 1 + 2147483648) % 4294967296 - 2147483648 := by rw [ez32]; exact i_add x51_5 1
                have lz32 := Int32.le_toInt z32
                have uz32 := Int32.toInt_lt z32
                try replace tz32 : z32.toInt = x51_5.toInt + 1 := by omega
                refine lv_iinc (v := z32) (lv' := [(5, .int z32), (4, .int 1), (0, .ref h), (1, .int p0), (2, .ref skm), (3, .int x51_3)]) S.x S.b d_Mpg_assigned_97 hl (k := 5) rfl (by rw [ez32]; rfl) (by decide) rfl (fun ls hl => ?_)
                refine lv_goto (tgt := 51) S.x S.b d_Mpg_assigned_100 (by decide) ?_
                first | exact ih51 x51_3 (1 : Int32) z32 _ _ ls (show x51_3.toInt = x14_3.toInt from k51_0) (show 0 ≤ x51_3.toInt from k51_1) (show x51_3.toInt < 43 from k51_2) (show 0 ≤ (1 : Int) from oz_19c3a41681) (show (1 : Int) ≤ 1 from oz_f9181dc4bb) (show 0 ≤ z32.toInt from (oz_ae613611c0 tz32 k51_5)) (show z32.toInt ≤ 3 from by omega) (show (1 : Int) = 1 → (mlen x51_3.toNatClampNeg : Int) = (mlen (ta 10 p0.toNatClampNeg).toNatClampNeg : Int) - 1 from by omega) (show 4 - z32.toInt < (n_51 : Int) from (oz_f8f59e7e44 hm tz32)) hw (lv_sub hl [2, 3, 4, 5, 1, 0] rfl) | (exact ih51 x51_3 (1 : Int32) z32 _ _ ls (show x51_3.toInt = x14_3.toInt from by first | exact k51_0 | omega) (show 0 ≤ x51_3.toInt from by first | exact k51_1 | omega) (show x51_3.toInt < 43 from by first | exact k51_2 | omega) (show 0 ≤ (1 : Int) from by first | exact oz_19c3a41681 | omega) (show (1 : Int) ≤ 1 from by first | exact oz_f9181dc4bb | omega) (show 0 ≤ z32.toInt from by first | exact oz_ae613611c0 tz32 k51_5 | omega) (show z32.toInt ≤ 3 from by omega) (show (1 : Int) = 1 → (mlen x51_3.toNatClampNeg : Int) = (mlen (ta 10 p0.toNatClampNeg).toNatClampNeg : Int) - 1 from by omega) (show 4 - z32.toInt < (n_51 : Int) from by first | exact oz_f8f59e7e44 hm tz32 | omega) hw (lv_sub hl [2, 3, 4, 5, 1, 0] rfl))
      refine lv_iload_n S.x S.b d_Mpg_assigned_14 rfl (lv_at hl 3 rfl) ?_
      refine lv_aload_n S.x S.b d_Mpg_assigned_15 rfl (lv_at hl 0 rfl) ?_
      refine gP_1 S hT hw 0 rfl m9_224 d_Mpg_assigned_16 ?_
      refine px_len S hT hw 0 2 11 rfl rfl rfl (v := 43) rfl d_Mpg_assigned_19 ?_
      refine lv_icmp_ge (tgt := 116) S.x S.b d_Mpg_assigned_20 (by decide) (fun c33 => ?_) (fun c33 => ?_)
      · have nc33 : (43 : Int) ≤ x14_3.toInt := (i_le (x := 43) (y := x14_3)).mp c33
        refine lv_iconst (v := (-1)) S.x S.b d_Mpg_assigned_116 (by decide) ?_
        first | exact px_iret (v := (-1)) S hr rfl hlk hAe hw (Nat.le_of_ble_eq_true rfl) (Nat.le_of_ble_eq_true rfl) (⟨rfl, (show -1 ≤ (-1 : Int) from oz_268d846349), (show (-1 : Int) ≤ 42 from oz_848179ad4e)⟩) d_Mpg_assigned_117 | (exact px_iret (v := (-1)) S hr rfl hlk hAe hw (Nat.le_of_ble_eq_true rfl) (Nat.le_of_ble_eq_true rfl) (⟨rfl, (show -1 ≤ (-1 : Int) from by first | exact oz_268d846349 | omega), (show (-1 : Int) ≤ 42 from by first | exact oz_848179ad4e | omega)⟩) d_Mpg_assigned_117)
      · have nc33 : ¬ (43 : Int) ≤ x14_3.toInt := mt (i_le (x := 43) (y := x14_3)).mpr c33
        refine lv_aload_n S.x S.b d_Mpg_assigned_23 rfl (lv_at hl 0 rfl) ?_
        refine gP_1 S hT hw 0 rfl m9_224 d_Mpg_assigned_24 ?_
        refine lv_iload_n S.x S.b d_Mpg_assigned_27 rfl (lv_at hl 3 rfl) ?_
        first | have hclsk35 := cl_nat (x := x14_3) (k14_0) | (have hclsk35 := cl_nat (x := x14_3) (by first | exact k14_0 | omega))
        obtain ⟨sk35, hgsk35, st36, hSsk35⟩ := oP_1B hP (i := x14_3.toNatClampNeg) (by omega)
        have hmsk35 := len_1 (i := x14_3.toNatClampNeg) (by omega)
        refine px_aaldS S hT hw 0 2 11 (n := 43) (f := (g 1)) rfl rfl rfl (x := x14_3) (vp_in_iff.mpr (by first | exact oz_05f97a0004 hclsk35 nc33 | (constructor <;> omega))) hgsk35 d_Mpg_assigned_28 ?_
        refine px_calli (pr := [wdP cs h r g tf ta pf na ma wa cf ca ef ea xf xa]) (px_runV (As := []) (rest := []) S (c_String_length l D cs sk35 st36 (mlen x14_3.toNatClampNeg) (mby x14_3.toNatClampNeg)   (show (mlen x14_3.toNatClampNeg) ≤ 1000000 from by omega) _) hT (pr := [wdP cs h r g tf ta pf na ma wa cf ca ef ea xf xa]) (pcs := []) hw (oX_call (P := (fun A U H => (oZ A U H) ∧ (oS A sk35 st36 (mlen x14_3.toNatClampNeg) (mby x14_3.toNatClampNeg) U H))) (pr := [wdP cs h r g tf ta pf na ma wa cf ca ef ea xf xa]) (oG_and oG_Z oG_S) hw hA ⟨hZ, hSsk35⟩) (oS_recv hw hSsk35) m1_58 m11_157 m1_56 m1_57 m1_3 q_String_length ⟨Nat.le_of_ble_eq_true rfl, Nat.le_of_ble_eq_true rfl⟩ hl.1 rfl (Nat.le_of_ble_eq_true rfl) d_Mpg_assigned_29 ⟨Nat.le_of_ble_eq_true rfl, Nat.le_of_ble_eq_true rfl⟩) hw hA (fun v39 p38 H locs hp38 hw => ?_)
        obtain ⟨rfl, e40, e41⟩ := hp38
        have e40 : v39.toInt = ((mlen x14_3.toNatClampNeg) : Int) := e40
        have e41 : R_String_length (mlen x14_3.toNatClampNeg) v39 := e41
        have lv39 := Int32.le_toInt v39
        have uv39 := Int32.toInt_lt v39
        refine lv_aload_n S.x S.b d_Mpg_assigned_32 rfl (lv_at hl 2 rfl) ?_
        refine px_calli (pr := [wdP cs h r g tf ta pf na ma wa cf ca ef ea xf xa]) (px_runV (As := []) (rest := [.int v39]) S (c_String_length l D cs skm stm (mlen (ta 10 p0.toNatClampNeg).toNatClampNeg) sbm   (show (mlen (ta 10 p0.toNatClampNeg).toNatClampNeg) ≤ 1000000 from by omega) _) hT (pr := [wdP cs h r g tf ta pf na ma wa cf ca ef ea xf xa]) (pcs := []) hw (oX_call (P := (fun A U H => (oZ A U H) ∧ (oS A skm stm (mlen (ta 10 p0.toNatClampNeg).toNatClampNeg) sbm U H))) (pr := [wdP cs h r g tf ta pf na ma wa cf ca ef ea xf xa]) (oG_and oG_Z oG_S) hw hA ⟨hZ, hSm⟩) (oS_recv hw hSm) m1_58 m11_157 m1_56 m1_57 m1_3 q_String_length ⟨Nat.le_of_ble_eq_true rfl, Nat.le_of_ble_eq_true rfl⟩ hl.1 rfl (Nat.le_of_ble_eq_true rfl) d_Mpg_assigned_33 ⟨Nat.le_of_ble_eq_true rfl, Nat.le_of_ble_eq_true rfl⟩) hw hA (fun v43 p42 H locs hp42 hw => ?_)
        obtain ⟨rfl, e44, e45⟩ := hp42
        have e44 : v43.toInt = ((mlen (ta 10 p0.toNatClampNeg).toNatClampNeg) : Int) := e44
        have e45 : R_String_length (mlen (ta 10 p0.toNatClampNeg).toNatClampNeg) v43 := e45
        have lv43 := Int32.le_toInt v43
        have uv43 := Int32.toInt_lt v43
        refine lv_iconst (v := 1) S.x S.b d_Mpg_assigned_36 (by decide) ?_
        refine lv_isub S.x S.b d_Mpg_assigned_37 ?_
        refine lv_topi (fun z46 ez46 => ?_)
        have tz46 : z46.toInt = (v43.toInt - (1 : Int) + 2147483648) % 4294967296 - 2147483648 := by rw [ez46]; exact i_sub v43 1
        have lz46 := Int32.le_toInt z46
        have uz46 := Int32.toInt_lt z46
        try replace tz46 : z46.toInt = v43.toInt - (1 : Int) := by omega
        refine lv_icmp_ne (tgt := 45) S.x S.b d_Mpg_assigned_38 (by decide) (fun c47 => ?_) (fun c47 => ?_)
        · have nc47 : ¬ v39.toInt = z46.toInt := mt (i_eq (x := v39) (y := z46)).mpr c47
          refine lv_iconst (v := 0) S.x S.b d_Mpg_assigned_45 (by decide) ?_
          refine lv_istore (lv' := [(4, .int 0), (0, .ref h), (1, .int p0), (2, .ref skm), (3, .int x14_3)]) S.x S.b d_Mpg_assigned_46 hl (by decide) rfl (fun ls hl => ?_)
          refine lv_iconst (v := 0) S.x S.b d_Mpg_assigned_48 (by decide) ?_
          refine lv_istore (lv' := [(5, .int 0), (4, .int 0), (0, .ref h), (1, .int p0), (2, .ref skm), (3, .int x14_3)]) S.x S.b d_Mpg_assigned_49 hl (by decide) rfl (fun ls hl => ?_)
          first | exact J51 ((4 - (0 : Int)).toNat + 1) x14_3 (0 : Int32) (0 : Int32) _ _ ls (show x14_3.toInt = x14_3.toInt from rfl) (show 0 ≤ x14_3.toInt from k14_0) (show x14_3.toInt < 43 from (oz_321eb83f2b nc33)) (show 0 ≤ (0 : Int) from oz_5a341f00aa) (show (0 : Int) ≤ 1 from oz_6e68cd0f48) (show 0 ≤ (0 : Int) from oz_5a341f00aa) (show (0 : Int) ≤ 3 from oz_0804a0fa7b) (show (0 : Int) = 1 → (mlen x14_3.toNatClampNeg : Int) = (mlen (ta 10 p0.toNatClampNeg).toNatClampNeg : Int) - 1 from by omega) (show 4 - (0 : Int) < ((((4 - (0 : Int)).toNat + 1 : Nat) : Int) : Int) from oz_natlt) hw (lv_sub hl [2, 3, 4, 5, 1, 0] rfl) | (exact J51 ((4 - (0 : Int)).toNat + 1) x14_3 (0 : Int32) (0 : Int32) _ _ ls (show x14_3.toInt = x14_3.toInt from rfl) (show 0 ≤ x14_3.toInt from by first | exact k14_0 | omega) (show x14_3.toInt < 43 from by first | exact oz_321eb83f2b nc33 | omega) (show 0 ≤ (0 : Int) from by first | exact oz_5a341f00aa | omega) (show (0 : Int) ≤ 1 from by first | exact oz_6e68cd0f48 | omega) (show 0 ≤ (0 : Int) from by first | exact oz_5a341f00aa | omega) (show (0 : Int) ≤ 3 from by first | exact oz_0804a0fa7b | omega) (show (0 : Int) = 1 → (mlen x14_3.toNatClampNeg : Int) = (mlen (ta 10 p0.toNatClampNeg).toNatClampNeg : Int) - 1 from by omega) (show 4 - (0 : Int) < ((((4 - (0 : Int)).toNat + 1 : Nat) : Int) : Int) from by first | exact oz_natlt | omega) hw (lv_sub hl [2, 3, 4, 5, 1, 0] rfl))
        · have nc47 : v39.toInt = z46.toInt := (i_eq (x := v39) (y := z46)).mp c47
          refine lv_iconst (v := 1) S.x S.b d_Mpg_assigned_41 (by decide) ?_
          refine lv_goto (tgt := 46) S.x S.b d_Mpg_assigned_42 (by decide) ?_
          refine lv_istore (lv' := [(4, .int 1), (0, .ref h), (1, .int p0), (2, .ref skm), (3, .int x14_3)]) S.x S.b d_Mpg_assigned_46 hl (by decide) rfl (fun ls hl => ?_)
          refine lv_iconst (v := 0) S.x S.b d_Mpg_assigned_48 (by decide) ?_
          refine lv_istore (lv' := [(5, .int 0), (4, .int 1), (0, .ref h), (1, .int p0), (2, .ref skm), (3, .int x14_3)]) S.x S.b d_Mpg_assigned_49 hl (by decide) rfl (fun ls hl => ?_)
          first | exact J51 ((4 - (0 : Int)).toNat + 1) x14_3 (1 : Int32) (0 : Int32) _ _ ls (show x14_3.toInt = x14_3.toInt from rfl) (show 0 ≤ x14_3.toInt from k14_0) (show x14_3.toInt < 43 from (oz_321eb83f2b nc33)) (show 0 ≤ (1 : Int) from oz_19c3a41681) (show (1 : Int) ≤ 1 from oz_f9181dc4bb) (show 0 ≤ (0 : Int) from oz_5a341f00aa) (show (0 : Int) ≤ 3 from oz_0804a0fa7b) (show (1 : Int) = 1 → (mlen x14_3.toNatClampNeg : Int) = (mlen (ta 10 p0.toNatClampNeg).toNatClampNeg : Int) - 1 from by omega) (show 4 - (0 : Int) < ((((4 - (0 : Int)).toNat + 1 : Nat) : Int) : Int) from oz_natlt) hw (lv_sub hl [2, 3, 4, 5, 1, 0] rfl) | (exact J51 ((4 - (0 : Int)).toNat + 1) x14_3 (1 : Int32) (0 : Int32) _ _ ls (show x14_3.toInt = x14_3.toInt from rfl) (show 0 ≤ x14_3.toInt from by first | exact k14_0 | omega) (show x14_3.toInt < 43 from by first | exact oz_321eb83f2b nc33 | omega) (show 0 ≤ (1 : Int) from by first | exact oz_19c3a41681 | omega) (show (1 : Int) ≤ 1 from by first | exact oz_f9181dc4bb | omega) (show 0 ≤ (0 : Int) from by first | exact oz_5a341f00aa | omega) (show (0 : Int) ≤ 3 from by first | exact oz_0804a0fa7b | omega) (show (1 : Int) = 1 → (mlen x14_3.toNatClampNeg : Int) = (mlen (ta 10 p0.toNatClampNeg).toNatClampNeg : Int) - 1 from by omega) (show 4 - (0 : Int) < ((((4 - (0 : Int)).toNat + 1 : Nat) : Int) : Int) from by first | exact oz_natlt | omega) hw (lv_sub hl [2, 3, 4, 5, 1, 0] rfl))
  refine lv_aload_n S.x S.b d_Mpg_assigned_0 rfl (lv_at hl 0 rfl) ?_
  refine gP_1 S hT hw 0 rfl m9_224 d_Mpg_assigned_1 ?_
  refine lv_aload_n S.x S.b d_Mpg_assigned_4 rfl (lv_at hl 0 rfl) ?_
  refine gP_10 S hT hw 0 rfl m9_234 d_Mpg_assigned_5 ?_
  refine lv_iload_n S.x S.b d_Mpg_assigned_8 rfl (lv_at hl 1 rfl) ?_
  refine px_iald S hT hw 0 9 (n := 2060) (f := (ta 10)) rfl gp_10 (x := p0) (vp_in_iff.mpr (by first | exact oz_846323bf3a g0 g1 g2 | (constructor <;> omega))) d_Mpg_assigned_9 ?_
  refine lv_topi (fun z49 ez49 => ?_)
  have lz49 := Int32.le_toInt z49
  have uz49 := Int32.toInt_lt z49
  have hw9 := tk_w5 htk (x := p0) (by omega) (by omega) ez49 (by omega)
  refine px_aaldS S hT hw 0 2 11 (n := 43) (f := (g 1)) rfl rfl rfl (x := z49) (vp_in_iff.mpr (by first | exact oz_e19df9ded9 hw9.1 hw9.2.1 | (constructor <;> omega))) (by rw [ez49]; exact hgm) d_Mpg_assigned_10 ?_
  refine lv_astore_n (lv' := [(2, .ref skm), (0, .ref h), (1, .int p0)]) S.x S.b d_Mpg_assigned_11 rfl hl (by decide) rfl (fun ls hl => ?_)
  refine lv_iconst (v := 0) S.x S.b d_Mpg_assigned_12 (by decide) ?_
  refine lv_istore_n (lv' := [(3, .int 0), (2, .ref skm), (0, .ref h), (1, .int p0)]) S.x S.b d_Mpg_assigned_13 rfl hl (by decide) rfl (fun ls hl => ?_)
  first | exact J14 ((43 - (0 : Int)).toNat + 1) (0 : Int32) _ _ ls (show 0 ≤ (0 : Int) from oz_5a341f00aa) (show (0 : Int) ≤ 43 from oz_05a38b089a) (show 43 - (0 : Int) < ((((43 - (0 : Int)).toNat + 1 : Nat) : Int) : Int) from oz_natlt) hw (lv_sub hl [2, 3, 1, 0] rfl) | (exact J14 ((43 - (0 : Int)).toNat + 1) (0 : Int32) _ _ ls (show 0 ≤ (0 : Int) from by first | exact oz_5a341f00aa | omega) (show (0 : Int) ≤ 43 from by first | exact oz_05a38b089a | omega) (show 43 - (0 : Int) < ((((43 - (0 : Int)).toNat + 1 : Nat) : Int) : Int) from by first | exact oz_natlt | omega) hw (lv_sub hl [2, 3, 1, 0] rfl))
