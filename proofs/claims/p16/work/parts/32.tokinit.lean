theorem m1_55 : Cond.methodLink "HomeSystem$Tokens" 23 ⟨"java/lang/String", "length", "()I"⟩ ∈ AL := AL_1 (List.mem_of_getElem? (i := 55) rfl) rfl
theorem m1_65 : Cond.methodLink "HomeSystem$Tokens" 39 ⟨"java/lang/String", "charAt", "(I)C"⟩ ∈ AL := AL_1 (List.mem_of_getElem? (i := 65) rfl) rfl
theorem m1_68 : Cond.code ⟨"java/lang/String", "charAt", "(I)C"⟩ prog_31_method_56_code 2 (Option.some FieldType.char) ∈ AL := AL_1 (List.mem_of_getElem? (i := 68) rfl) rfl
theorem m1_66 : Cond.instanceMethod ⟨"java/lang/String", "charAt", "(I)C"⟩ ∈ AL := AL_1 (List.mem_of_getElem? (i := 66) rfl) rfl
theorem m1_67 : Cond.selects "java/lang/String" ⟨"java/lang/String", "charAt", "(I)C"⟩ ⟨"java/lang/String", "charAt", "(I)C"⟩ ∈ AL := AL_1 (List.mem_of_getElem? (i := 67) rfl) rfl
theorem m1_53 : Cond.methodLink "HomeSystem$Tokens" 3 ⟨"java/lang/Object", "<init>", "()V"⟩ ∈ AL := AL_1 (List.mem_of_getElem? (i := 53) rfl) rfl
theorem m1_167 : Cond.arrayClass FieldType.char ∈ AL := AL_1 (List.mem_of_getElem? (i := 167) rfl) rfl
abbrev b_Tok_init : ByteArray := prog_12_method_1_code
def y_Tok_init : MethodName := ⟨"HomeSystem$Tokens", "<init>", "()V"⟩
theorem d_Tok_init_0 : decode b_Tok_init 0 = .ok (.aload_n 0, 1) := by decide +kernel
theorem d_Tok_init_1 : decode b_Tok_init 1 = .ok (.invokespecial 3, 3) := by decide +kernel
theorem d_Tok_init_4 : decode b_Tok_init 4 = .ok (.aload_n 0, 1) := by decide +kernel
theorem d_Tok_init_5 : decode b_Tok_init 5 = .ok (.sipush 2049, 3) := by decide +kernel
theorem d_Tok_init_8 : decode b_Tok_init 8 = .ok (.newarray .int, 2) := by decide +kernel
theorem d_Tok_init_10 : decode b_Tok_init 10 = .ok (.putfield 9, 3) := by decide +kernel
theorem d_Tok_init_13 : decode b_Tok_init 13 = .ok (.aload_n 0, 1) := by decide +kernel
theorem d_Tok_init_14 : decode b_Tok_init 14 = .ok (.sipush 2049, 3) := by decide +kernel
theorem d_Tok_init_17 : decode b_Tok_init 17 = .ok (.newarray .int, 2) := by decide +kernel
theorem d_Tok_init_19 : decode b_Tok_init 19 = .ok (.putfield 15, 3) := by decide +kernel
theorem d_Tok_init_22 : decode b_Tok_init 22 = .ok (.aload_n 0, 1) := by decide +kernel
theorem d_Tok_init_23 : decode b_Tok_init 23 = .ok (.sipush 2049, 3) := by decide +kernel
theorem d_Tok_init_26 : decode b_Tok_init 26 = .ok (.newarray .int, 2) := by decide +kernel
theorem d_Tok_init_28 : decode b_Tok_init 28 = .ok (.putfield 18, 3) := by decide +kernel
theorem d_Tok_init_31 : decode b_Tok_init 31 = .ok (.aload_n 0, 1) := by decide +kernel
theorem d_Tok_init_32 : decode b_Tok_init 32 = .ok (.ldc 21, 2) := by decide +kernel
theorem d_Tok_init_34 : decode b_Tok_init 34 = .ok (.invokevirtual 23, 3) := by decide +kernel
theorem d_Tok_init_37 : decode b_Tok_init 37 = .ok (.sipush 2048, 3) := by decide +kernel
theorem d_Tok_init_40 : decode b_Tok_init 40 = .ok (.iadd, 1) := by decide +kernel
theorem d_Tok_init_41 : decode b_Tok_init 41 = .ok (.newarray .char, 2) := by decide +kernel
theorem d_Tok_init_43 : decode b_Tok_init 43 = .ok (.putfield 29, 3) := by decide +kernel
theorem d_Tok_init_46 : decode b_Tok_init 46 = .ok (.aload_n 0, 1) := by decide +kernel
theorem d_Tok_init_47 : decode b_Tok_init 47 = .ok (.sipush 2074, 3) := by decide +kernel
theorem d_Tok_init_50 : decode b_Tok_init 50 = .ok (.newarray .int, 2) := by decide +kernel
theorem d_Tok_init_52 : decode b_Tok_init 52 = .ok (.putfield 33, 3) := by decide +kernel
theorem d_Tok_init_55 : decode b_Tok_init 55 = .ok (.aload_n 0, 1) := by decide +kernel
theorem d_Tok_init_56 : decode b_Tok_init 56 = .ok (.sipush 2048, 3) := by decide +kernel
theorem d_Tok_init_59 : decode b_Tok_init 59 = .ok (.newarray .int, 2) := by decide +kernel
theorem d_Tok_init_61 : decode b_Tok_init 61 = .ok (.putfield 36, 3) := by decide +kernel
theorem d_Tok_init_64 : decode b_Tok_init 64 = .ok (.iconst 0, 1) := by decide +kernel
theorem d_Tok_init_65 : decode b_Tok_init 65 = .ok (.istore_n 1, 1) := by decide +kernel
theorem d_Tok_init_66 : decode b_Tok_init 66 = .ok (.iconst 0, 1) := by decide +kernel
theorem d_Tok_init_67 : decode b_Tok_init 67 = .ok (.istore_n 2, 1) := by decide +kernel
theorem d_Tok_init_68 : decode b_Tok_init 68 = .ok (.iconst 0, 1) := by decide +kernel
theorem d_Tok_init_69 : decode b_Tok_init 69 = .ok (.istore_n 3, 1) := by decide +kernel
theorem d_Tok_init_70 : decode b_Tok_init 70 = .ok (.iload_n 3, 1) := by decide +kernel
theorem d_Tok_init_71 : decode b_Tok_init 71 = .ok (.ldc 21, 2) := by decide +kernel
theorem d_Tok_init_73 : decode b_Tok_init 73 = .ok (.invokevirtual 23, 3) := by decide +kernel
theorem d_Tok_init_76 : decode b_Tok_init 76 = .ok (.if_icmp .ge 48, 3) := by decide +kernel
theorem d_Tok_init_79 : decode b_Tok_init 79 = .ok (.ldc 21, 2) := by decide +kernel
theorem d_Tok_init_81 : decode b_Tok_init 81 = .ok (.iload_n 3, 1) := by decide +kernel
theorem d_Tok_init_82 : decode b_Tok_init 82 = .ok (.invokevirtual 39, 3) := by decide +kernel
theorem d_Tok_init_85 : decode b_Tok_init 85 = .ok (.istore 4, 2) := by decide +kernel
theorem d_Tok_init_87 : decode b_Tok_init 87 = .ok (.iload 4, 2) := by decide +kernel
theorem d_Tok_init_89 : decode b_Tok_init 89 = .ok (.bipush 32, 2) := by decide +kernel
theorem d_Tok_init_91 : decode b_Tok_init 91 = .ok (.if_icmp .ne 16, 3) := by decide +kernel
theorem d_Tok_init_94 : decode b_Tok_init 94 = .ok (.aload_n 0, 1) := by decide +kernel
theorem d_Tok_init_95 : decode b_Tok_init 95 = .ok (.getfield 33, 3) := by decide +kernel
theorem d_Tok_init_98 : decode b_Tok_init 98 = .ok (.iload_n 2, 1) := by decide +kernel
theorem d_Tok_init_99 : decode b_Tok_init 99 = .ok (.iload_n 1, 1) := by decide +kernel
theorem d_Tok_init_100 : decode b_Tok_init 100 = .ok (.iastore, 1) := by decide +kernel
theorem d_Tok_init_101 : decode b_Tok_init 101 = .ok (.iinc 2 1, 3) := by decide +kernel
theorem d_Tok_init_104 : decode b_Tok_init 104 = .ok (.goto 14, 3) := by decide +kernel
theorem d_Tok_init_107 : decode b_Tok_init 107 = .ok (.aload_n 0, 1) := by decide +kernel
theorem d_Tok_init_108 : decode b_Tok_init 108 = .ok (.getfield 29, 3) := by decide +kernel
theorem d_Tok_init_111 : decode b_Tok_init 111 = .ok (.iload_n 1, 1) := by decide +kernel
theorem d_Tok_init_112 : decode b_Tok_init 112 = .ok (.iload 4, 2) := by decide +kernel
theorem d_Tok_init_114 : decode b_Tok_init 114 = .ok (.castore, 1) := by decide +kernel
theorem d_Tok_init_115 : decode b_Tok_init 115 = .ok (.iinc 1 1, 3) := by decide +kernel
theorem d_Tok_init_118 : decode b_Tok_init 118 = .ok (.iinc 3 1, 3) := by decide +kernel
theorem d_Tok_init_121 : decode b_Tok_init 121 = .ok (.goto (-51), 3) := by decide +kernel
theorem d_Tok_init_124 : decode b_Tok_init 124 = .ok (.return_, 1) := by decide +kernel
theorem q_Tok_init : px_y y_Tok_init 0 := by unfold px_y; decide +kernel
set_option maxHeartbeats 4000000 in
set_option maxRecDepth 100000 in
theorem c_Tok_init (l : Launch) (D : va_G) (cs : Nat → ClassId) (sk : Nat) (st : Nat) (sn : Nat) (sb : Nat → Int32) (h : Nat) (r : Nat → Nat) (a : Nat → Nat → Int32)  (g0 : sn = 133) : MetV l y_Tok_init b_Tok_init 5 D cs 4 130 (6) (12450) [.ref h] [[(h, .inr (1, [.null, .null, .null, .null, .null, .null, .null, .int 0, .int 0, .int 0, .int 0, .int 0, .int 0, .int 0, .int 0, .int 0, .int 0, .int 0, .int 0]))]] (oX (fun A U H => (vk_R "HomeSystem$Tokens" 21 "int char void enum if else while do for switch case default break continue return len put send recv more spawn wait get set end main " sk U) ∧ (oF A U H) ∧ (oZ A U H) ∧ (oS A sk st sn sb U H)) [[(h, .inr (1, [.null, .null, .null, .null, .null, .null, .null, .int 0, .int 0, .int 0, .int 0, .int 0, .int 0, .int 0, .int 0, .int 0, .int 0, .int 0, .int 0]))]]) (fun ps => ∃ (r : Nat → Nat) (a : Nat → Nat → Int32), ps = [wd_Tok cs h r (fun _ => none) (fun _ => 0) a (fun _ _ => none)] ∧ ∀ j : Nat, 0 ≤ (a 4 j).toInt ∧ (a 4 j).toInt ≤ 1000 + 24 * (j : Int)) := by
  refine px_enter (by decide) (Nat.le_of_ble_eq_true rfl) ?_
  intro p e s m below meth c A ls hAe S hr hlk hnm hA hT hX hw hl
  have hin : meth.name = "<init>" := hnm
  have hl : lv_has ls 5 [(0, .ref h)] := hl
  have cst0 : (0 : Int32).toInt = 0 := rfl
  have cst32 : (32 : Int32).toInt = 32 := rfl
  have cst2048 : (2048 : Int32).toInt = 2048 := rfl
  have cst2049 : (2049 : Int32).toInt = 2049 := rfl
  have cst2074 : (2074 : Int32).toInt = 2074 := rfl
  have hX : (fun A U H => (vk_R "HomeSystem$Tokens" 21 "int char void enum if else while do for switch case default break continue return len put send recv more spawn wait get set end main " sk U) ∧ (oF A U H) ∧ (oZ A U H) ∧ (oS A sk st sn sb U H)) A s s.heap := by rw [hAe]; exact hX
  obtain ⟨hL, hF0, hZ, hS⟩ := hX
  have hsn : (nI sn).toInt = (sn : Int) := nI_toInt (by omega)
  have J70 : ∀ (n : Nat) (r_70 : Nat → Nat) (a_70 : Nat → Nat → Int32) (x70_1 x70_2 x70_3 : Int32) (H : Heap) (locs : List Loc) (ls : Array Slot), (∀ j : Nat, 0 ≤ ((a_70 4) j).toInt ∧ ((a_70 4) j).toInt ≤ 1000 + 24 * (j : Int)) → (0 ≤ x70_1.toInt) → (x70_1.toInt ≤ x70_3.toInt) → (0 ≤ x70_2.toInt) → (x70_2.toInt ≤ x70_3.toInt) → (x70_3.toInt ≤ (sn : Int)) → (sn : Int)+1-x70_3.toInt < (n : Int) → pw D A s.heap H locs [wd_Tok cs h r_70 (fun _ => none) (fun _ => 0) a_70 (fun _ _ => none)] → lv_has ls 5 [(0, .ref h), (1, .int x70_1), (2, .int x70_2), (3, .int x70_3)] → W p l e { frames := 4, cells := 6, slots := 12450, locals := 130 } s m [.ref h].toArray below meth c H locs 6 12450 (MQ below (va_Qv (fun ps => ∃ (r : Nat → Nat) (a : Nat → Nat → Int32), ps = [wd_Tok cs h r (fun _ => none) (fun _ => 0) a (fun _ _ => none)] ∧ ∀ j : Nat, 0 ≤ (a 4 j).toInt ∧ (a 4 j).toInt ≤ 1000 + 24 * (j : Int)) (pc_B D (va_A ([[(h, .inr (1, [.null, .null, .null, .null, .null, .null, .null, .int 0, .int 0, .int 0, .int 0, .int 0, .int 0, .int 0, .int 0, .int 0, .int 0, .int 0, .int 0]))]] : List va_W).flatten s.heap.size)) (va_A ([[(h, .inr (1, [.null, .null, .null, .null, .null, .null, .null, .int 0, .int 0, .int 0, .int 0, .int 0, .int 0, .int 0, .int 0, .int 0, .int 0, .int 0, .int 0]))]] : List va_W).flatten s.heap.size)) [.ref h].toArray s 6 12450 A) (F0 m 70 ls []) := by
    intro n
    induction n with
    | zero =>
      intro r_70 a_70 x70_1 x70_2 x70_3 H locs ls hi70_0 k70_0 k70_1 k70_2 k70_3 k70_4 hm hw hl
      have hn4 := hi70_0
      have lx70_1 := Int32.le_toInt x70_1
      have ux70_1 := Int32.toInt_lt x70_1
      have lx70_2 := Int32.le_toInt x70_2
      have ux70_2 := Int32.toInt_lt x70_2
      have lx70_3 := Int32.le_toInt x70_3
      have ux70_3 := Int32.toInt_lt x70_3
      exact absurd hm (by omega)
    | succ n ih =>
      intro r_70 a_70 x70_1 x70_2 x70_3 H locs ls hi70_0 k70_0 k70_1 k70_2 k70_3 k70_4 hm hw hl
      have hn4 := hi70_0
      have lx70_1 := Int32.le_toInt x70_1
      have ux70_1 := Int32.toInt_lt x70_1
      have lx70_2 := Int32.le_toInt x70_2
      have ux70_2 := Int32.toInt_lt x70_2
      have lx70_3 := Int32.le_toInt x70_3
      have ux70_3 := Int32.toInt_lt x70_3
      refine lv_iload_n S.x S.b d_Tok_init_70 rfl (lv_at hl 3 rfl) ?_
      refine va_ldcS S.x S.b S.own hL d_Tok_init_71 ?_
      refine px_calli (pr := [wd_Tok cs h r_70 (fun _ => none) (fun _ => 0) a_70 (fun _ _ => none)]) (px_runV (As := []) (rest := [.int x70_3]) S (c_String_length l D cs sk st sn sb   (show sn ≤ 1000000 from by omega) _) hT (pr := [wd_Tok cs h r_70 (fun _ => none) (fun _ => 0) a_70 (fun _ _ => none)]) (pcs := []) hw (oX_call (P := (fun A U H => (oZ A U H) ∧ (oS A sk st sn sb U H))) (pr := [wd_Tok cs h r_70 (fun _ => none) (fun _ => 0) a_70 (fun _ _ => none)]) (oG_and oG_Z oG_S) hw hA ⟨hZ, hS⟩) (oS_recv hw hS) m1_58 m1_55 m1_56 m1_57 m1_3 q_String_length ⟨Nat.le_of_ble_eq_true rfl, Nat.le_of_ble_eq_true rfl⟩ hl.1 rfl (Nat.le_of_ble_eq_true rfl) d_Tok_init_73 ⟨Nat.le_of_ble_eq_true rfl, Nat.le_of_ble_eq_true rfl⟩) hw hA (fun v2 p1 H locs hp1 hw => ?_)
      obtain ⟨rfl, e3⟩ := hp1
      have e3 : v2.toInt = (sn : Int) := e3
      have hw : pw D A s.heap H locs [wd_Tok cs h r_70 (fun _ => none) (fun _ => 0) a_70 (fun _ _ => none)] := hw
      have lv2 := Int32.le_toInt v2
      have uv2 := Int32.toInt_lt v2
      refine lv_icmp_ge (tgt := 124) S.x S.b d_Tok_init_76 (by decide) (fun c4 => ?_) (fun c4 => ?_)
      · have nc4 : v2.toInt ≤ x70_3.toInt := (i_le (x := v2) (y := x70_3)).mp c4
        exact px_vret S hr hlk hAe hw (Nat.le_of_ble_eq_true rfl) (Nat.le_of_ble_eq_true rfl) (⟨r_70, a_70, rfl, hn4⟩) d_Tok_init_124
      · have nc4 : ¬ v2.toInt ≤ x70_3.toInt := mt (i_le (x := v2) (y := x70_3)).mpr c4
        refine va_ldcS S.x S.b S.own hL d_Tok_init_79 ?_
        refine lv_iload_n S.x S.b d_Tok_init_81 rfl (lv_at hl 3 rfl) ?_
        refine px_calli (pr := [wd_Tok cs h r_70 (fun _ => none) (fun _ => 0) a_70 (fun _ _ => none)]) (px_runV (As := [.int x70_3]) (rest := []) S (c_String_charAt l D cs sk st sn sb x70_3  (show sn ≤ 1000000 from by omega) (show 0 ≤ x70_3.toInt from by omega) (show x70_3.toInt < (sn : Int) from by omega) _) hT (pr := [wd_Tok cs h r_70 (fun _ => none) (fun _ => 0) a_70 (fun _ _ => none)]) (pcs := []) hw (oX_call (P := (fun A U H => (oF A U H) ∧ (oZ A U H) ∧ (oS A sk st sn sb U H))) (pr := [wd_Tok cs h r_70 (fun _ => none) (fun _ => 0) a_70 (fun _ _ => none)]) (oG_and oG_F (oG_and oG_Z oG_S)) hw hA ⟨hF0, hZ, hS⟩) (oS_recv hw hS) m1_68 m1_65 m1_66 m1_67 m1_3 q_String_charAt ⟨Nat.le_of_ble_eq_true rfl, Nat.le_of_ble_eq_true rfl⟩ hl.1 rfl (Nat.le_of_ble_eq_true rfl) d_Tok_init_82 ⟨Nat.le_of_ble_eq_true rfl, Nat.le_of_ble_eq_true rfl⟩) hw hA (fun v6 p5 H locs hp5 hw => ?_)
        obtain ⟨rfl, e7⟩ := hp5
        have e7 : narrow .char (.int v6) = .int v6 := e7
        have hw : pw D A s.heap H locs [wd_Tok cs h r_70 (fun _ => none) (fun _ => 0) a_70 (fun _ _ => none)] := hw
        have lv6 := Int32.le_toInt v6
        have uv6 := Int32.toInt_lt v6
        refine lv_istore (lv' := [(4, .int v6), (0, .ref h), (1, .int x70_1), (2, .int x70_2), (3, .int x70_3)]) S.x S.b d_Tok_init_85 hl (by decide) rfl (fun ls hl => ?_)
        refine lv_iload S.x S.b d_Tok_init_87 (lv_at hl 0 rfl) ?_
        refine lv_bipush (v := 32) S.x S.b d_Tok_init_89 (by decide) ?_
        refine lv_icmp_ne (tgt := 107) S.x S.b d_Tok_init_91 (by decide) (fun c8 => ?_) (fun c8 => ?_)
        · have nc8 : ¬ v6.toInt = (32 : Int) := mt (i_eq (x := v6) (y := 32)).mpr c8
          refine lv_aload_n S.x S.b d_Tok_init_107 rfl (lv_at hl 1 rfl) ?_
          refine px_get S k_Tok hT hw 0 0 3 (v := .ref (r_70 3)) rfl rfl rfl (by decide) m1_106 d_Tok_init_108 ?_
          refine lv_iload_n S.x S.b d_Tok_init_111 rfl (lv_at hl 2 rfl) ?_
          refine lv_iload S.x S.b d_Tok_init_112 (lv_at hl 0 rfl) ?_
          refine px_cast S hT hw 0 4 (n := 2181) (f := (a_70 3)) (x := x70_1) (y := v6) rfl (ga_Tok_3 _ _ _ _ _ _ _) (vp_in_iff.mpr (by constructor <;> omega)) d_Tok_init_114 (w' := wd_Tok cs h r_70 (fun _ => none) (fun _ => 0) (va_up a_70 3 (upd (a_70 3) x70_1.toNatClampNeg (vp_nar .char v6))) (fun _ _ => none)) (ps' := [wd_Tok cs h r_70 (fun _ => none) (fun _ => 0) (va_up a_70 3 (upd (a_70 3) x70_1.toNatClampNeg (vp_nar .char v6))) (fun _ _ => none)]) (sa_Tok_3 _ _ _ _ _ _ _ _) rfl (fun H locs hw => ?_)
          obtain ⟨z9, ez9⟩ : ∃ y : Int32, y = x70_1 + 1 := ⟨_, rfl⟩
          have tz9 : z9.toInt = (x70_1.toInt + 1 + 2147483648) % 4294967296 - 2147483648 := by rw [ez9]; exact i_add x70_1 1
          have lz9 := Int32.le_toInt z9
          have uz9 := Int32.toInt_lt z9
          try replace tz9 : z9.toInt = x70_1.toInt + 1 := by omega
          refine lv_iinc (v := z9) (lv' := [(1, .int z9), (4, .int v6), (0, .ref h), (2, .int x70_2), (3, .int x70_3)]) S.x S.b d_Tok_init_115 hl (k := 2) rfl (by rw [ez9]; rfl) (by decide) rfl (fun ls hl => ?_)
          obtain ⟨z10, ez10⟩ : ∃ y : Int32, y = x70_3 + 1 := ⟨_, rfl⟩
          have tz10 : z10.toInt = (x70_3.toInt + 1 + 2147483648) % 4294967296 - 2147483648 := by rw [ez10]; exact i_add x70_3 1
          have lz10 := Int32.le_toInt z10
          have uz10 := Int32.toInt_lt z10
          try replace tz10 : z10.toInt = x70_3.toInt + 1 := by omega
          refine lv_iinc (v := z10) (lv' := [(3, .int z10), (1, .int z9), (4, .int v6), (0, .ref h), (2, .int x70_2)]) S.x S.b d_Tok_init_118 hl (k := 4) rfl (by rw [ez10]; rfl) (by decide) rfl (fun ls hl => ?_)
          refine lv_goto (tgt := 70) S.x S.b d_Tok_init_121 (by decide) ?_
          exact ih r_70 (va_up a_70 3 (upd (a_70 3) x70_1.toNatClampNeg (vp_nar .char v6))) z9 x70_2 z10 _ _ ls (show ∀ j : Nat, 0 ≤ (((va_up a_70 3 (upd (a_70 3) x70_1.toNatClampNeg (vp_nar .char v6))) 4) j).toInt ∧ (((va_up a_70 3 (upd (a_70 3) x70_1.toNatClampNeg (vp_nar .char v6))) 4) j).toInt ≤ 1000 + 24 * (j : Int) from (by rw [va_up_n (by decide)]; exact hn4)) (show 0 ≤ z9.toInt from by omega) (show z9.toInt ≤ z10.toInt from by omega) (show 0 ≤ x70_2.toInt from by omega) (show x70_2.toInt ≤ z10.toInt from by omega) (show z10.toInt ≤ (sn : Int) from by omega) (show (sn : Int)+1-z10.toInt < (n : Int) from by omega) hw (lv_sub hl [3, 1, 4, 0] rfl)
        · have nc8 : v6.toInt = (32 : Int) := (i_eq (x := v6) (y := 32)).mp c8
          refine lv_aload_n S.x S.b d_Tok_init_94 rfl (lv_at hl 1 rfl) ?_
          refine px_get S k_Tok hT hw 0 0 4 (v := .ref (r_70 4)) rfl rfl rfl (by decide) m1_107 d_Tok_init_95 ?_
          refine lv_iload_n S.x S.b d_Tok_init_98 rfl (lv_at hl 3 rfl) ?_
          refine lv_iload_n S.x S.b d_Tok_init_99 rfl (lv_at hl 2 rfl) ?_
          refine px_iast S hT hw 0 5 (n := 2074) (f := (a_70 4)) (x := x70_2) (y := x70_1) rfl (ga_Tok_4 _ _ _ _ _ _ _) (vp_in_iff.mpr (by constructor <;> omega)) d_Tok_init_100 (w' := wd_Tok cs h r_70 (fun _ => none) (fun _ => 0) (va_up a_70 4 (upd (a_70 4) x70_2.toNatClampNeg x70_1)) (fun _ _ => none)) (ps' := [wd_Tok cs h r_70 (fun _ => none) (fun _ => 0) (va_up a_70 4 (upd (a_70 4) x70_2.toNatClampNeg x70_1)) (fun _ _ => none)]) (sa_Tok_4 _ _ _ _ _ _ _ _) rfl (fun H locs hw => ?_)
          have hn4 := n4_up hn4 (x := x70_2) (z := x70_1) (by omega) (by omega) (by omega)
          obtain ⟨z11, ez11⟩ : ∃ y : Int32, y = x70_2 + 1 := ⟨_, rfl⟩
          have tz11 : z11.toInt = (x70_2.toInt + 1 + 2147483648) % 4294967296 - 2147483648 := by rw [ez11]; exact i_add x70_2 1
          have lz11 := Int32.le_toInt z11
          have uz11 := Int32.toInt_lt z11
          try replace tz11 : z11.toInt = x70_2.toInt + 1 := by omega
          refine lv_iinc (v := z11) (lv' := [(2, .int z11), (4, .int v6), (0, .ref h), (1, .int x70_1), (3, .int x70_3)]) S.x S.b d_Tok_init_101 hl (k := 3) rfl (by rw [ez11]; rfl) (by decide) rfl (fun ls hl => ?_)
          refine lv_goto (tgt := 118) S.x S.b d_Tok_init_104 (by decide) ?_
          obtain ⟨z12, ez12⟩ : ∃ y : Int32, y = x70_3 + 1 := ⟨_, rfl⟩
          have tz12 : z12.toInt = (x70_3.toInt + 1 + 2147483648) % 4294967296 - 2147483648 := by rw [ez12]; exact i_add x70_3 1
          have lz12 := Int32.le_toInt z12
          have uz12 := Int32.toInt_lt z12
          try replace tz12 : z12.toInt = x70_3.toInt + 1 := by omega
          refine lv_iinc (v := z12) (lv' := [(3, .int z12), (2, .int z11), (4, .int v6), (0, .ref h), (1, .int x70_1)]) S.x S.b d_Tok_init_118 hl (k := 4) rfl (by rw [ez12]; rfl) (by decide) rfl (fun ls hl => ?_)
          refine lv_goto (tgt := 70) S.x S.b d_Tok_init_121 (by decide) ?_
          exact ih r_70 (va_up a_70 4 (upd (a_70 4) x70_2.toNatClampNeg x70_1)) x70_1 z11 z12 _ _ ls (show ∀ j : Nat, 0 ≤ (((va_up a_70 4 (upd (a_70 4) x70_2.toNatClampNeg x70_1)) 4) j).toInt ∧ (((va_up a_70 4 (upd (a_70 4) x70_2.toNatClampNeg x70_1)) 4) j).toInt ≤ 1000 + 24 * (j : Int) from (by rw [va_up_s]; exact hn4)) (show 0 ≤ x70_1.toInt from by omega) (show x70_1.toInt ≤ z12.toInt from by omega) (show 0 ≤ z11.toInt from by omega) (show z11.toInt ≤ z12.toInt from by omega) (show z12.toInt ≤ (sn : Int) from by omega) (show (sn : Int)+1-z12.toInt < (n : Int) from by omega) hw (lv_sub hl [3, 4, 1, 0] rfl)
  refine lv_aload_n S.x S.b d_Tok_init_0 rfl (lv_at hl 0 rfl) ?_
  refine px_oinit S m1_53 m1_46 m1_47 hl.1 d_Tok_init_1 (Nat.le_of_ble_eq_true rfl) (Nat.le_of_ble_eq_true rfl) ?_
  refine lv_aload_n S.x S.b d_Tok_init_4 rfl (lv_at hl 0 rfl) ?_
  refine lv_sipush (v := 2049) S.x S.b d_Tok_init_5 (by decide) ?_
  refine px_newa S hT hw hA (atype := .int) m1_166 0 rfl rfl (a0 := (2049, .inl (fun _ => 0))) (fun _ => rfl) (by decide) (by decide +kernel) (Nat.le_of_ble_eq_true rfl) (Nat.le_of_ble_eq_true rfl) (Nat.le_of_ble_eq_true rfl) d_Tok_init_8 (fun q13 H hw => ?_)
  have hw : pw D A s.heap H _ [[(h, .inr (1, [.null, .null, .null, .null, .null, .null, .null, .int 0, .int 0, .int 0, .int 0, .int 0, .int 0, .int 0, .int 0, .int 0, .int 0, .int 0, .int 0]))], [(q13, .inl (cs 0, 2049, .inl (fun _ => 0)))]] := hw
  refine px_putF S k_Tok hin hT hw 0 0 0 rfl rfl (by decide) m1_103 rfl rfl rfl rfl (Nat.le_of_ble_eq_true rfl) d_Tok_init_10 (w' := [(h, .inr (1, [.ref q13, .null, .null, .null, .null, .null, .null, .int 0, .int 0, .int 0, .int 0, .int 0, .int 0, .int 0, .int 0, .int 0, .int 0, .int 0, .int 0]))]) (ps' := [[(h, .inr (1, [.ref q13, .null, .null, .null, .null, .null, .null, .int 0, .int 0, .int 0, .int 0, .int 0, .int 0, .int 0, .int 0, .int 0, .int 0, .int 0, .int 0]))], [(q13, .inl (cs 0, 2049, .inl (fun _ => 0)))]]) rfl rfl (fun H locs hw => ?_)
  refine lv_aload_n S.x S.b d_Tok_init_13 rfl (lv_at hl 0 rfl) ?_
  refine lv_sipush (v := 2049) S.x S.b d_Tok_init_14 (by decide) ?_
  refine px_newa S hT hw hA (atype := .int) m1_166 0 rfl rfl (a0 := (2049, .inl (fun _ => 0))) (fun _ => rfl) (by decide) (by decide +kernel) (Nat.le_of_ble_eq_true rfl) (Nat.le_of_ble_eq_true rfl) (Nat.le_of_ble_eq_true rfl) d_Tok_init_17 (fun q14 H hw => ?_)
  have hw : pw D A s.heap H _ [[(h, .inr (1, [.ref q13, .null, .null, .null, .null, .null, .null, .int 0, .int 0, .int 0, .int 0, .int 0, .int 0, .int 0, .int 0, .int 0, .int 0, .int 0, .int 0]))], [(q13, .inl (cs 0, 2049, .inl (fun _ => 0)))], [(q14, .inl (cs 0, 2049, .inl (fun _ => 0)))]] := hw
  refine px_putF S k_Tok hin hT hw 0 0 1 rfl rfl (by decide) m1_104 rfl rfl rfl rfl (Nat.le_of_ble_eq_true rfl) d_Tok_init_19 (w' := [(h, .inr (1, [.ref q13, .ref q14, .null, .null, .null, .null, .null, .int 0, .int 0, .int 0, .int 0, .int 0, .int 0, .int 0, .int 0, .int 0, .int 0, .int 0, .int 0]))]) (ps' := [[(h, .inr (1, [.ref q13, .ref q14, .null, .null, .null, .null, .null, .int 0, .int 0, .int 0, .int 0, .int 0, .int 0, .int 0, .int 0, .int 0, .int 0, .int 0, .int 0]))], [(q13, .inl (cs 0, 2049, .inl (fun _ => 0)))], [(q14, .inl (cs 0, 2049, .inl (fun _ => 0)))]]) rfl rfl (fun H locs hw => ?_)
  refine lv_aload_n S.x S.b d_Tok_init_22 rfl (lv_at hl 0 rfl) ?_
  refine lv_sipush (v := 2049) S.x S.b d_Tok_init_23 (by decide) ?_
  refine px_newa S hT hw hA (atype := .int) m1_166 0 rfl rfl (a0 := (2049, .inl (fun _ => 0))) (fun _ => rfl) (by decide) (by decide +kernel) (Nat.le_of_ble_eq_true rfl) (Nat.le_of_ble_eq_true rfl) (Nat.le_of_ble_eq_true rfl) d_Tok_init_26 (fun q15 H hw => ?_)
  have hw : pw D A s.heap H _ [[(h, .inr (1, [.ref q13, .ref q14, .null, .null, .null, .null, .null, .int 0, .int 0, .int 0, .int 0, .int 0, .int 0, .int 0, .int 0, .int 0, .int 0, .int 0, .int 0]))], [(q13, .inl (cs 0, 2049, .inl (fun _ => 0)))], [(q14, .inl (cs 0, 2049, .inl (fun _ => 0)))], [(q15, .inl (cs 0, 2049, .inl (fun _ => 0)))]] := hw
  refine px_putF S k_Tok hin hT hw 0 0 2 rfl rfl (by decide) m1_105 rfl rfl rfl rfl (Nat.le_of_ble_eq_true rfl) d_Tok_init_28 (w' := [(h, .inr (1, [.ref q13, .ref q14, .ref q15, .null, .null, .null, .null, .int 0, .int 0, .int 0, .int 0, .int 0, .int 0, .int 0, .int 0, .int 0, .int 0, .int 0, .int 0]))]) (ps' := [[(h, .inr (1, [.ref q13, .ref q14, .ref q15, .null, .null, .null, .null, .int 0, .int 0, .int 0, .int 0, .int 0, .int 0, .int 0, .int 0, .int 0, .int 0, .int 0, .int 0]))], [(q13, .inl (cs 0, 2049, .inl (fun _ => 0)))], [(q14, .inl (cs 0, 2049, .inl (fun _ => 0)))], [(q15, .inl (cs 0, 2049, .inl (fun _ => 0)))]]) rfl rfl (fun H locs hw => ?_)
  refine lv_aload_n S.x S.b d_Tok_init_31 rfl (lv_at hl 0 rfl) ?_
  refine va_ldcS S.x S.b S.own hL d_Tok_init_32 ?_
  refine px_calli (pr := [[(h, .inr (1, [.ref q13, .ref q14, .ref q15, .null, .null, .null, .null, .int 0, .int 0, .int 0, .int 0, .int 0, .int 0, .int 0, .int 0, .int 0, .int 0, .int 0, .int 0]))], [(q13, .inl (cs 0, 2049, .inl (fun _ => 0)))], [(q14, .inl (cs 0, 2049, .inl (fun _ => 0)))], [(q15, .inl (cs 0, 2049, .inl (fun _ => 0)))]]) (px_runV (As := []) (rest := [.ref h]) S (c_String_length l D cs sk st sn sb   (show sn ≤ 1000000 from by omega) _) hT (pr := [[(h, .inr (1, [.ref q13, .ref q14, .ref q15, .null, .null, .null, .null, .int 0, .int 0, .int 0, .int 0, .int 0, .int 0, .int 0, .int 0, .int 0, .int 0, .int 0, .int 0]))], [(q13, .inl (cs 0, 2049, .inl (fun _ => 0)))], [(q14, .inl (cs 0, 2049, .inl (fun _ => 0)))], [(q15, .inl (cs 0, 2049, .inl (fun _ => 0)))]]) (pcs := []) hw (oX_call (P := (fun A U H => (oZ A U H) ∧ (oS A sk st sn sb U H))) (pr := [[(h, .inr (1, [.ref q13, .ref q14, .ref q15, .null, .null, .null, .null, .int 0, .int 0, .int 0, .int 0, .int 0, .int 0, .int 0, .int 0, .int 0, .int 0, .int 0, .int 0]))], [(q13, .inl (cs 0, 2049, .inl (fun _ => 0)))], [(q14, .inl (cs 0, 2049, .inl (fun _ => 0)))], [(q15, .inl (cs 0, 2049, .inl (fun _ => 0)))]]) (oG_and oG_Z oG_S) hw hA ⟨hZ, hS⟩) (oS_recv hw hS) m1_58 m1_55 m1_56 m1_57 m1_3 q_String_length ⟨Nat.le_of_ble_eq_true rfl, Nat.le_of_ble_eq_true rfl⟩ hl.1 rfl (Nat.le_of_ble_eq_true rfl) d_Tok_init_34 ⟨Nat.le_of_ble_eq_true rfl, Nat.le_of_ble_eq_true rfl⟩) hw hA (fun v17 p16 H locs hp16 hw => ?_)
  obtain ⟨rfl, e18⟩ := hp16
  have e18 : v17.toInt = (sn : Int) := e18
  have hw : pw D A s.heap H locs [[(h, .inr (1, [.ref q13, .ref q14, .ref q15, .null, .null, .null, .null, .int 0, .int 0, .int 0, .int 0, .int 0, .int 0, .int 0, .int 0, .int 0, .int 0, .int 0, .int 0]))], [(q13, .inl (cs 0, 2049, .inl (fun _ => 0)))], [(q14, .inl (cs 0, 2049, .inl (fun _ => 0)))], [(q15, .inl (cs 0, 2049, .inl (fun _ => 0)))]] := hw
  have lv17 := Int32.le_toInt v17
  have uv17 := Int32.toInt_lt v17
  refine lv_sipush (v := 2048) S.x S.b d_Tok_init_37 (by decide) ?_
  refine lv_iadd S.x S.b d_Tok_init_40 ?_
  refine lv_topi (fun z19 ez19 => ?_)
  have tz19 : z19.toInt = (v17.toInt + (2048 : Int) + 2147483648) % 4294967296 - 2147483648 := by rw [ez19]; exact i_add v17 2048
  have lz19 := Int32.le_toInt z19
  have uz19 := Int32.toInt_lt z19
  try replace tz19 : z19.toInt = v17.toInt + (2048 : Int) := by omega
  have hnl : z19 = 2181 := i_eq.mpr (show z19.toInt = (2181 : Int) from by omega)
  subst hnl
  refine px_newa S hT hw hA (atype := .char) m1_167 2 rfl rfl (a0 := (2181, .inl (fun _ => 0))) (fun _ => rfl) (by decide) (by decide +kernel) (Nat.le_of_ble_eq_true rfl) (Nat.le_of_ble_eq_true rfl) (Nat.le_of_ble_eq_true rfl) d_Tok_init_41 (fun q20 H hw => ?_)
  have hw : pw D A s.heap H _ [[(h, .inr (1, [.ref q13, .ref q14, .ref q15, .null, .null, .null, .null, .int 0, .int 0, .int 0, .int 0, .int 0, .int 0, .int 0, .int 0, .int 0, .int 0, .int 0, .int 0]))], [(q13, .inl (cs 0, 2049, .inl (fun _ => 0)))], [(q14, .inl (cs 0, 2049, .inl (fun _ => 0)))], [(q15, .inl (cs 0, 2049, .inl (fun _ => 0)))], [(q20, .inl (cs 2, 2181, .inl (fun _ => 0)))]] := hw
  refine px_putF S k_Tok hin hT hw 0 0 3 rfl rfl (by decide) m1_106 rfl rfl rfl rfl (Nat.le_of_ble_eq_true rfl) d_Tok_init_43 (w' := [(h, .inr (1, [.ref q13, .ref q14, .ref q15, .ref q20, .null, .null, .null, .int 0, .int 0, .int 0, .int 0, .int 0, .int 0, .int 0, .int 0, .int 0, .int 0, .int 0, .int 0]))]) (ps' := [[(h, .inr (1, [.ref q13, .ref q14, .ref q15, .ref q20, .null, .null, .null, .int 0, .int 0, .int 0, .int 0, .int 0, .int 0, .int 0, .int 0, .int 0, .int 0, .int 0, .int 0]))], [(q13, .inl (cs 0, 2049, .inl (fun _ => 0)))], [(q14, .inl (cs 0, 2049, .inl (fun _ => 0)))], [(q15, .inl (cs 0, 2049, .inl (fun _ => 0)))], [(q20, .inl (cs 2, 2181, .inl (fun _ => 0)))]]) rfl rfl (fun H locs hw => ?_)
  refine lv_aload_n S.x S.b d_Tok_init_46 rfl (lv_at hl 0 rfl) ?_
  refine lv_sipush (v := 2074) S.x S.b d_Tok_init_47 (by decide) ?_
  refine px_newa S hT hw hA (atype := .int) m1_166 0 rfl rfl (a0 := (2074, .inl (fun _ => 0))) (fun _ => rfl) (by decide) (by decide +kernel) (Nat.le_of_ble_eq_true rfl) (Nat.le_of_ble_eq_true rfl) (Nat.le_of_ble_eq_true rfl) d_Tok_init_50 (fun q21 H hw => ?_)
  have hw : pw D A s.heap H _ [[(h, .inr (1, [.ref q13, .ref q14, .ref q15, .ref q20, .null, .null, .null, .int 0, .int 0, .int 0, .int 0, .int 0, .int 0, .int 0, .int 0, .int 0, .int 0, .int 0, .int 0]))], [(q13, .inl (cs 0, 2049, .inl (fun _ => 0)))], [(q14, .inl (cs 0, 2049, .inl (fun _ => 0)))], [(q15, .inl (cs 0, 2049, .inl (fun _ => 0)))], [(q20, .inl (cs 2, 2181, .inl (fun _ => 0)))], [(q21, .inl (cs 0, 2074, .inl (fun _ => 0)))]] := hw
  refine px_putF S k_Tok hin hT hw 0 0 4 rfl rfl (by decide) m1_107 rfl rfl rfl rfl (Nat.le_of_ble_eq_true rfl) d_Tok_init_52 (w' := [(h, .inr (1, [.ref q13, .ref q14, .ref q15, .ref q20, .ref q21, .null, .null, .int 0, .int 0, .int 0, .int 0, .int 0, .int 0, .int 0, .int 0, .int 0, .int 0, .int 0, .int 0]))]) (ps' := [[(h, .inr (1, [.ref q13, .ref q14, .ref q15, .ref q20, .ref q21, .null, .null, .int 0, .int 0, .int 0, .int 0, .int 0, .int 0, .int 0, .int 0, .int 0, .int 0, .int 0, .int 0]))], [(q13, .inl (cs 0, 2049, .inl (fun _ => 0)))], [(q14, .inl (cs 0, 2049, .inl (fun _ => 0)))], [(q15, .inl (cs 0, 2049, .inl (fun _ => 0)))], [(q20, .inl (cs 2, 2181, .inl (fun _ => 0)))], [(q21, .inl (cs 0, 2074, .inl (fun _ => 0)))]]) rfl rfl (fun H locs hw => ?_)
  refine lv_aload_n S.x S.b d_Tok_init_55 rfl (lv_at hl 0 rfl) ?_
  refine lv_sipush (v := 2048) S.x S.b d_Tok_init_56 (by decide) ?_
  refine px_newa S hT hw hA (atype := .int) m1_166 0 rfl rfl (a0 := (2048, .inl (fun _ => 0))) (fun _ => rfl) (by decide) (by decide +kernel) (Nat.le_of_ble_eq_true rfl) (Nat.le_of_ble_eq_true rfl) (Nat.le_of_ble_eq_true rfl) d_Tok_init_59 (fun q22 H hw => ?_)
  have hw : pw D A s.heap H _ [[(h, .inr (1, [.ref q13, .ref q14, .ref q15, .ref q20, .ref q21, .null, .null, .int 0, .int 0, .int 0, .int 0, .int 0, .int 0, .int 0, .int 0, .int 0, .int 0, .int 0, .int 0]))], [(q13, .inl (cs 0, 2049, .inl (fun _ => 0)))], [(q14, .inl (cs 0, 2049, .inl (fun _ => 0)))], [(q15, .inl (cs 0, 2049, .inl (fun _ => 0)))], [(q20, .inl (cs 2, 2181, .inl (fun _ => 0)))], [(q21, .inl (cs 0, 2074, .inl (fun _ => 0)))], [(q22, .inl (cs 0, 2048, .inl (fun _ => 0)))]] := hw
  refine px_putF S k_Tok hin hT hw 0 0 5 rfl rfl (by decide) m1_108 rfl rfl rfl rfl (Nat.le_of_ble_eq_true rfl) d_Tok_init_61 (w' := [(h, .inr (1, [.ref q13, .ref q14, .ref q15, .ref q20, .ref q21, .ref q22, .null, .int 0, .int 0, .int 0, .int 0, .int 0, .int 0, .int 0, .int 0, .int 0, .int 0, .int 0, .int 0]))]) (ps' := [[(h, .inr (1, [.ref q13, .ref q14, .ref q15, .ref q20, .ref q21, .ref q22, .null, .int 0, .int 0, .int 0, .int 0, .int 0, .int 0, .int 0, .int 0, .int 0, .int 0, .int 0, .int 0]))], [(q13, .inl (cs 0, 2049, .inl (fun _ => 0)))], [(q14, .inl (cs 0, 2049, .inl (fun _ => 0)))], [(q15, .inl (cs 0, 2049, .inl (fun _ => 0)))], [(q20, .inl (cs 2, 2181, .inl (fun _ => 0)))], [(q21, .inl (cs 0, 2074, .inl (fun _ => 0)))], [(q22, .inl (cs 0, 2048, .inl (fun _ => 0)))]]) rfl rfl (fun H locs hw => ?_)
  refine lv_iconst (v := 0) S.x S.b d_Tok_init_64 (by decide) ?_
  refine lv_istore_n (lv' := [(1, .int 0), (0, .ref h)]) S.x S.b d_Tok_init_65 rfl hl (by decide) rfl (fun ls hl => ?_)
  refine lv_iconst (v := 0) S.x S.b d_Tok_init_66 (by decide) ?_
  refine lv_istore_n (lv' := [(2, .int 0), (1, .int 0), (0, .ref h)]) S.x S.b d_Tok_init_67 rfl hl (by decide) rfl (fun ls hl => ?_)
  refine lv_iconst (v := 0) S.x S.b d_Tok_init_68 (by decide) ?_
  refine lv_istore_n (lv' := [(3, .int 0), (2, .int 0), (1, .int 0), (0, .ref h)]) S.x S.b d_Tok_init_69 rfl hl (by decide) rfl (fun ls hl => ?_)
  have hw : pw D A s.heap _ _ [wd_Tok cs h (fun k => if k = 5 then q22 else if k = 4 then q21 else if k = 3 then q20 else if k = 2 then q15 else if k = 1 then q14 else if k = 0 then q13 else 0) (fun _ => none) (fun _ => 0) (fun _ _ => 0) (fun _ _ => none)] := hw.eq rfl
  exact J70 (((sn : Int)+1-(0 : Int)).toNat + 1) (fun k => if k = 5 then q22 else if k = 4 then q21 else if k = 3 then q20 else if k = 2 then q15 else if k = 1 then q14 else if k = 0 then q13 else 0) (fun _ _ => 0) (0 : Int32) (0 : Int32) (0 : Int32) _ _ ls (fun j => ⟨by show (0 : Int) ≤ 0; omega, by show (0 : Int) ≤ _; omega⟩) (show 0 ≤ (0 : Int) from by omega) (show (0 : Int) ≤ (0 : Int) from by omega) (show 0 ≤ (0 : Int) from by omega) (show (0 : Int) ≤ (0 : Int) from by omega) (show (0 : Int) ≤ (sn : Int) from by omega) (show (sn : Int)+1-(0 : Int) < (((((sn : Int)+1-(0 : Int)).toNat + 1 : Nat) : Int) : Int) from by omega) hw (lv_sub hl [3, 2, 1, 0] rfl)
