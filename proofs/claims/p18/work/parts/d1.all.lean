theorem oz_0019f5b22e {n0 : Nat}  : 0 ≤ (n0 : Int) := by omega
theorem oz_9c21ebfec0 {n0 : Nat}  : (5 * n0 + 13) + 1 ≤ (5 * n0 + 20) := by omega
theorem oz_518f07bcfb {n0 : Nat}  : 8 + (3 + 11) + (200 * n0 + 560) ≤ (200 * n0 + 700) := by omega
theorem oz_e001900d6d {n0 : Nat}  : 0 + 1 ≤ (5 * n0 + 20) := by omega
theorem oz_71e4de0b61 {n0 : Nat}  : 8 + (4 + 11) + 0 ≤ (200 * n0 + 700) := by omega
theorem oz_588aae29aa {a0 a1 a2 : Int} (h0 : a2 < a1) (h1 : a0 = a2 + 1) : a0 ≤ a1 := by omega
theorem oz_02169018e0 {a0 a1 : Int} (h0 : (a0) ≤ (a1 + 1)) (h1 : a1 ≤ 6200) : a0 ≤ 6300 := by omega
theorem oz_3bc8865c86 {a0 a1 : Int} (h0 : 0 ≤ a0) (h1 : a0 ≤ a1) (h2 : a1 ≤ 200) : 0 ≤ a0 ∧ a0 < ((260 : Nat) : Int) := by omega
theorem oz_87efc7dca7 {n0 : Nat}  : 7 + 1 ≤ (5 * n0 + 20) := by omega
theorem oz_f456c6801a {n0 : Nat}  : 8 + (3 + 11) + 260 ≤ (200 * n0 + 700) := by omega
theorem oz_2db6136293 {n0 : Nat}  : (2 * n0 + 12) + 1 ≤ (5 * n0 + 20) := by omega
theorem oz_d4faf94d9f {n0 : Nat}  : 8 + (5 + 11) + (120 * n0 + 440) ≤ (200 * n0 + 700) := by omega
theorem oz_d274c80cf8 {a0 a1 a2 : Int} (h0 : a0 = a1) (h1 : a1 = a2) (h2 : a2 = (0 : Int)) : 0 ≤ a0 := by omega
theorem m10_62 : Cond.fieldLink "HomeSystemModel$Program" 286 "HomeSystemModel$Program" "parameters" "[I" ∈ AL := AL_10 (List.mem_of_getElem? (i := 62) rfl) rfl
theorem m10_60 : Cond.fieldLink "HomeSystemModel$Program" 283 "HomeSystemModel$Program" "entry" "[I" ∈ AL := AL_10 (List.mem_of_getElem? (i := 60) rfl) rfl
theorem m13_115 : Cond.methodLink "HomeSystemModel$Program" 755 ⟨"HomeSystemModel$Program", "mainFunction", "()I"⟩ ∈ AL := AL_13 (List.mem_of_getElem? (i := 115) rfl) rfl
theorem m13_118 : Cond.code ⟨"HomeSystemModel$Program", "mainFunction", "()I"⟩ prog_16_method_120_code 3 (Option.some FieldType.int) ∈ AL := AL_13 (List.mem_of_getElem? (i := 118) rfl) rfl
theorem ms_14_10 : Cond.selects "HomeSystemModel$Program" ⟨"HomeSystemModel$Program", "mainFunction", "()I"⟩ ⟨"HomeSystemModel$Program", "mainFunction", "()I"⟩ ∈ AL := AL_p (q := (⟨"HomeSystemModel$Program", "mainFunction", "()I"⟩, 69)) (by unfold lw_privs; exact List.mem_append_right _ (List.mem_append_right _ (List.mem_append_right _ (List.mem_append_right _ (List.mem_append_right _ (List.mem_append_right _ (List.mem_append_right _ (List.mem_append_right _ (List.mem_append_right _ (List.mem_append_right _ (List.mem_append_right _ (List.mem_append_right _ (List.mem_append_right _ (List.mem_append_left _ (List.mem_of_getElem? (i := 10) rfl)))))))))))))))
theorem m13_117 : Cond.instanceMethod ⟨"HomeSystemModel$Program", "mainFunction", "()I"⟩ ∈ AL := AL_13 (List.mem_of_getElem? (i := 117) rfl) rfl
abbrev b_Mpg_makeAll : ByteArray := prog_16_method_119_code
def y_Mpg_makeAll : MethodName := ⟨"HomeSystemModel$Program", "makeAll", "()V"⟩
theorem d_Mpg_makeAll_0 : decode b_Mpg_makeAll 0 = .ok (.aload_n 0, 1) := by decide +kernel
theorem d_Mpg_makeAll_1 : decode b_Mpg_makeAll 1 = .ok (.iconst 0, 1) := by decide +kernel
theorem d_Mpg_makeAll_2 : decode b_Mpg_makeAll 2 = .ok (.putfield 708, 3) := by decide +kernel
theorem d_Mpg_makeAll_5 : decode b_Mpg_makeAll 5 = .ok (.aload_n 0, 1) := by decide +kernel
theorem d_Mpg_makeAll_6 : decode b_Mpg_makeAll 6 = .ok (.iconst (-1), 1) := by decide +kernel
theorem d_Mpg_makeAll_7 : decode b_Mpg_makeAll 7 = .ok (.putfield 749, 3) := by decide +kernel
theorem d_Mpg_makeAll_10 : decode b_Mpg_makeAll 10 = .ok (.aload_n 0, 1) := by decide +kernel
theorem d_Mpg_makeAll_11 : decode b_Mpg_makeAll 11 = .ok (.iconst (-1), 1) := by decide +kernel
theorem d_Mpg_makeAll_12 : decode b_Mpg_makeAll 12 = .ok (.putfield 752, 3) := by decide +kernel
theorem d_Mpg_makeAll_15 : decode b_Mpg_makeAll 15 = .ok (.aload_n 0, 1) := by decide +kernel
theorem d_Mpg_makeAll_16 : decode b_Mpg_makeAll 16 = .ok (.getfield 500, 3) := by decide +kernel
theorem d_Mpg_makeAll_19 : decode b_Mpg_makeAll 19 = .ok (.istore_n 1, 1) := by decide +kernel
theorem d_Mpg_makeAll_20 : decode b_Mpg_makeAll 20 = .ok (.iload_n 1, 1) := by decide +kernel
theorem d_Mpg_makeAll_21 : decode b_Mpg_makeAll 21 = .ok (.ifCond .lt 30, 3) := by decide +kernel
theorem d_Mpg_makeAll_24 : decode b_Mpg_makeAll 24 = .ok (.aload_n 0, 1) := by decide +kernel
theorem d_Mpg_makeAll_25 : decode b_Mpg_makeAll 25 = .ok (.getfield 207, 3) := by decide +kernel
theorem d_Mpg_makeAll_28 : decode b_Mpg_makeAll 28 = .ok (.iload_n 1, 1) := by decide +kernel
theorem d_Mpg_makeAll_29 : decode b_Mpg_makeAll 29 = .ok (.baload, 1) := by decide +kernel
theorem d_Mpg_makeAll_30 : decode b_Mpg_makeAll 30 = .ok (.bipush 23, 2) := by decide +kernel
theorem d_Mpg_makeAll_32 : decode b_Mpg_makeAll 32 = .ok (.if_icmp .ne 9, 3) := by decide +kernel
theorem d_Mpg_makeAll_35 : decode b_Mpg_makeAll 35 = .ok (.aload_n 0, 1) := by decide +kernel
theorem d_Mpg_makeAll_36 : decode b_Mpg_makeAll 36 = .ok (.iload_n 1, 1) := by decide +kernel
theorem d_Mpg_makeAll_37 : decode b_Mpg_makeAll 37 = .ok (.iconst 1, 1) := by decide +kernel
theorem d_Mpg_makeAll_38 : decode b_Mpg_makeAll 38 = .ok (.invokevirtual 740, 3) := by decide +kernel
theorem d_Mpg_makeAll_41 : decode b_Mpg_makeAll 41 = .ok (.aload_n 0, 1) := by decide +kernel
theorem d_Mpg_makeAll_42 : decode b_Mpg_makeAll 42 = .ok (.getfield 228, 3) := by decide +kernel
theorem d_Mpg_makeAll_45 : decode b_Mpg_makeAll 45 = .ok (.iload_n 1, 1) := by decide +kernel
theorem d_Mpg_makeAll_46 : decode b_Mpg_makeAll 46 = .ok (.iaload, 1) := by decide +kernel
theorem d_Mpg_makeAll_47 : decode b_Mpg_makeAll 47 = .ok (.istore_n 1, 1) := by decide +kernel
theorem d_Mpg_makeAll_48 : decode b_Mpg_makeAll 48 = .ok (.goto (-28), 3) := by decide +kernel
theorem d_Mpg_makeAll_51 : decode b_Mpg_makeAll 51 = .ok (.aload_n 0, 1) := by decide +kernel
theorem d_Mpg_makeAll_52 : decode b_Mpg_makeAll 52 = .ok (.bipush 15, 2) := by decide +kernel
theorem d_Mpg_makeAll_54 : decode b_Mpg_makeAll 54 = .ok (.aload_n 0, 1) := by decide +kernel
theorem d_Mpg_makeAll_55 : decode b_Mpg_makeAll 55 = .ok (.invokevirtual 755, 3) := by decide +kernel
theorem d_Mpg_makeAll_58 : decode b_Mpg_makeAll 58 = .ok (.iconst 0, 1) := by decide +kernel
theorem d_Mpg_makeAll_59 : decode b_Mpg_makeAll 59 = .ok (.invokevirtual 711, 3) := by decide +kernel
theorem d_Mpg_makeAll_62 : decode b_Mpg_makeAll 62 = .ok (.pop, 1) := by decide +kernel
theorem d_Mpg_makeAll_63 : decode b_Mpg_makeAll 63 = .ok (.iconst 0, 1) := by decide +kernel
theorem d_Mpg_makeAll_64 : decode b_Mpg_makeAll 64 = .ok (.istore_n 1, 1) := by decide +kernel
theorem d_Mpg_makeAll_65 : decode b_Mpg_makeAll 65 = .ok (.iload_n 1, 1) := by decide +kernel
theorem d_Mpg_makeAll_66 : decode b_Mpg_makeAll 66 = .ok (.aload_n 0, 1) := by decide +kernel
theorem d_Mpg_makeAll_67 : decode b_Mpg_makeAll 67 = .ok (.getfield 535, 3) := by decide +kernel
theorem d_Mpg_makeAll_70 : decode b_Mpg_makeAll 70 = .ok (.if_icmp .ge 110, 3) := by decide +kernel
theorem d_Mpg_makeAll_73 : decode b_Mpg_makeAll 73 = .ok (.aload_n 0, 1) := by decide +kernel
theorem d_Mpg_makeAll_74 : decode b_Mpg_makeAll 74 = .ok (.getfield 255, 3) := by decide +kernel
theorem d_Mpg_makeAll_77 : decode b_Mpg_makeAll 77 = .ok (.iload_n 1, 1) := by decide +kernel
theorem d_Mpg_makeAll_78 : decode b_Mpg_makeAll 78 = .ok (.iaload, 1) := by decide +kernel
theorem d_Mpg_makeAll_79 : decode b_Mpg_makeAll 79 = .ok (.istore_n 2, 1) := by decide +kernel
theorem d_Mpg_makeAll_80 : decode b_Mpg_makeAll 80 = .ok (.aload_n 0, 1) := by decide +kernel
theorem d_Mpg_makeAll_81 : decode b_Mpg_makeAll 81 = .ok (.getfield 283, 3) := by decide +kernel
theorem d_Mpg_makeAll_84 : decode b_Mpg_makeAll 84 = .ok (.iload_n 1, 1) := by decide +kernel
theorem d_Mpg_makeAll_85 : decode b_Mpg_makeAll 85 = .ok (.aload_n 0, 1) := by decide +kernel
theorem d_Mpg_makeAll_86 : decode b_Mpg_makeAll 86 = .ok (.getfield 708, 3) := by decide +kernel
theorem d_Mpg_makeAll_89 : decode b_Mpg_makeAll 89 = .ok (.iastore, 1) := by decide +kernel
theorem d_Mpg_makeAll_90 : decode b_Mpg_makeAll 90 = .ok (.iconst 0, 1) := by decide +kernel
theorem d_Mpg_makeAll_91 : decode b_Mpg_makeAll 91 = .ok (.istore_n 3, 1) := by decide +kernel
theorem d_Mpg_makeAll_92 : decode b_Mpg_makeAll 92 = .ok (.aload_n 0, 1) := by decide +kernel
theorem d_Mpg_makeAll_93 : decode b_Mpg_makeAll 93 = .ok (.getfield 216, 3) := by decide +kernel
theorem d_Mpg_makeAll_96 : decode b_Mpg_makeAll 96 = .ok (.iload_n 2, 1) := by decide +kernel
theorem d_Mpg_makeAll_97 : decode b_Mpg_makeAll 97 = .ok (.iaload, 1) := by decide +kernel
theorem d_Mpg_makeAll_98 : decode b_Mpg_makeAll 98 = .ok (.istore 4, 2) := by decide +kernel
theorem d_Mpg_makeAll_100 : decode b_Mpg_makeAll 100 = .ok (.iload 4, 2) := by decide +kernel
theorem d_Mpg_makeAll_102 : decode b_Mpg_makeAll 102 = .ok (.ifCond .lt 33, 3) := by decide +kernel
theorem d_Mpg_makeAll_105 : decode b_Mpg_makeAll 105 = .ok (.iload_n 3, 1) := by decide +kernel
theorem d_Mpg_makeAll_106 : decode b_Mpg_makeAll 106 = .ok (.aload_n 0, 1) := by decide +kernel
theorem d_Mpg_makeAll_107 : decode b_Mpg_makeAll 107 = .ok (.getfield 216, 3) := by decide +kernel
theorem d_Mpg_makeAll_110 : decode b_Mpg_makeAll 110 = .ok (.iload 4, 2) := by decide +kernel
theorem d_Mpg_makeAll_112 : decode b_Mpg_makeAll 112 = .ok (.iaload, 1) := by decide +kernel
theorem d_Mpg_makeAll_113 : decode b_Mpg_makeAll 113 = .ok (.ifCond .lt 7, 3) := by decide +kernel
theorem d_Mpg_makeAll_116 : decode b_Mpg_makeAll 116 = .ok (.iconst 2, 1) := by decide +kernel
theorem d_Mpg_makeAll_117 : decode b_Mpg_makeAll 117 = .ok (.goto 4, 3) := by decide +kernel
theorem d_Mpg_makeAll_120 : decode b_Mpg_makeAll 120 = .ok (.iconst 1, 1) := by decide +kernel
theorem d_Mpg_makeAll_121 : decode b_Mpg_makeAll 121 = .ok (.iadd, 1) := by decide +kernel
theorem d_Mpg_makeAll_122 : decode b_Mpg_makeAll 122 = .ok (.istore_n 3, 1) := by decide +kernel
theorem d_Mpg_makeAll_123 : decode b_Mpg_makeAll 123 = .ok (.aload_n 0, 1) := by decide +kernel
theorem d_Mpg_makeAll_124 : decode b_Mpg_makeAll 124 = .ok (.getfield 228, 3) := by decide +kernel
theorem d_Mpg_makeAll_127 : decode b_Mpg_makeAll 127 = .ok (.iload 4, 2) := by decide +kernel
theorem d_Mpg_makeAll_129 : decode b_Mpg_makeAll 129 = .ok (.iaload, 1) := by decide +kernel
theorem d_Mpg_makeAll_130 : decode b_Mpg_makeAll 130 = .ok (.istore 4, 2) := by decide +kernel
theorem d_Mpg_makeAll_132 : decode b_Mpg_makeAll 132 = .ok (.goto (-32), 3) := by decide +kernel
theorem d_Mpg_makeAll_135 : decode b_Mpg_makeAll 135 = .ok (.aload_n 0, 1) := by decide +kernel
theorem d_Mpg_makeAll_136 : decode b_Mpg_makeAll 136 = .ok (.getfield 286, 3) := by decide +kernel
theorem d_Mpg_makeAll_139 : decode b_Mpg_makeAll 139 = .ok (.iload_n 1, 1) := by decide +kernel
theorem d_Mpg_makeAll_140 : decode b_Mpg_makeAll 140 = .ok (.iload_n 3, 1) := by decide +kernel
theorem d_Mpg_makeAll_141 : decode b_Mpg_makeAll 141 = .ok (.iastore, 1) := by decide +kernel
theorem d_Mpg_makeAll_142 : decode b_Mpg_makeAll 142 = .ok (.aload_n 0, 1) := by decide +kernel
theorem d_Mpg_makeAll_143 : decode b_Mpg_makeAll 143 = .ok (.aload_n 0, 1) := by decide +kernel
theorem d_Mpg_makeAll_144 : decode b_Mpg_makeAll 144 = .ok (.getfield 216, 3) := by decide +kernel
theorem d_Mpg_makeAll_147 : decode b_Mpg_makeAll 147 = .ok (.aload_n 0, 1) := by decide +kernel
theorem d_Mpg_makeAll_148 : decode b_Mpg_makeAll 148 = .ok (.getfield 219, 3) := by decide +kernel
theorem d_Mpg_makeAll_151 : decode b_Mpg_makeAll 151 = .ok (.iload_n 2, 1) := by decide +kernel
theorem d_Mpg_makeAll_152 : decode b_Mpg_makeAll 152 = .ok (.iaload, 1) := by decide +kernel
theorem d_Mpg_makeAll_153 : decode b_Mpg_makeAll 153 = .ok (.iaload, 1) := by decide +kernel
theorem d_Mpg_makeAll_154 : decode b_Mpg_makeAll 154 = .ok (.invokevirtual 737, 3) := by decide +kernel
theorem d_Mpg_makeAll_157 : decode b_Mpg_makeAll 157 = .ok (.aload_n 0, 1) := by decide +kernel
theorem d_Mpg_makeAll_158 : decode b_Mpg_makeAll 158 = .ok (.iconst 1, 1) := by decide +kernel
theorem d_Mpg_makeAll_159 : decode b_Mpg_makeAll 159 = .ok (.iconst 0, 1) := by decide +kernel
theorem d_Mpg_makeAll_160 : decode b_Mpg_makeAll 160 = .ok (.iconst 0, 1) := by decide +kernel
theorem d_Mpg_makeAll_161 : decode b_Mpg_makeAll 161 = .ok (.invokevirtual 711, 3) := by decide +kernel
theorem d_Mpg_makeAll_164 : decode b_Mpg_makeAll 164 = .ok (.pop, 1) := by decide +kernel
theorem d_Mpg_makeAll_165 : decode b_Mpg_makeAll 165 = .ok (.aload_n 0, 1) := by decide +kernel
theorem d_Mpg_makeAll_166 : decode b_Mpg_makeAll 166 = .ok (.bipush 18, 2) := by decide +kernel
theorem d_Mpg_makeAll_168 : decode b_Mpg_makeAll 168 = .ok (.iconst 0, 1) := by decide +kernel
theorem d_Mpg_makeAll_169 : decode b_Mpg_makeAll 169 = .ok (.iconst 0, 1) := by decide +kernel
theorem d_Mpg_makeAll_170 : decode b_Mpg_makeAll 170 = .ok (.invokevirtual 711, 3) := by decide +kernel
theorem d_Mpg_makeAll_173 : decode b_Mpg_makeAll 173 = .ok (.pop, 1) := by decide +kernel
theorem d_Mpg_makeAll_174 : decode b_Mpg_makeAll 174 = .ok (.iinc 1 1, 3) := by decide +kernel
theorem d_Mpg_makeAll_177 : decode b_Mpg_makeAll 177 = .ok (.goto (-112), 3) := by decide +kernel
theorem d_Mpg_makeAll_180 : decode b_Mpg_makeAll 180 = .ok (.return_, 1) := by decide +kernel
theorem q_Mpg_makeAll : px_y y_Mpg_makeAll 0 := by unfold px_y; decide +kernel
set_option maxHeartbeats 4000000 in
set_option maxRecDepth 100000 in
theorem c_mp_makeAll (l : Launch) (D : va_G) (cs : Nat → ClassId) (sk : Nat) (st : Nat) (sb : Nat → Int32) (ma0 : Nat → Nat → Int32) (ns : Int) (nf : Int) (d : Nat) (wt : Int) (X9 : Cx) (wf : Nat → Int) (h : Nat) (r : Nat → Nat) (g : Nat → Nat → Option Nat) (tf : Nat → Int32) (ta : Nat → Nat → Int32) (pf : Nat → Int32) (na : Nat → Nat → Int32) (wa : Nat → Nat → Int32) (cf : Nat → Int32) (ca : Nat → Nat → Int32) (xf : Nat → Int32) (xa : Nat → Nat → Int32) (ma : Nat → Nat → Int32) (ef : Nat → Int32) (ea : Nat → Nat → Int32)  (g0 : 0 ≤ (tf 5).toInt) (g1 : (tf 5).toInt ≤ 2048) (g2 : 0 ≤ (pf 13).toInt) (g3 : (pf 13).toInt ≤ 2100) (g4 : (tf 6).toInt ≤ 2049) (g5 : (cf 38).toInt = nf) (g6 : 0 ≤ nf) (g7 : nf ≤ 200) (g8 : wt ≤ 6200) (htk : TkI tf ta) (hft : FnT (tf 6).toInt na ca (cf 38).toInt) (hfp : FnP na ca nf) (hab : Ann na ma0 ma) (hxx : TxX ta ca na ma0 ma nf ns d X9) (htr : TxR ta ca na ma0 ma (tf 6).toInt (tf 5).toInt nf ns sb d (pf 13).toInt (pf 24)) (hrd : RvD ta ca na ma0 ma (tf 6).toInt nf ns d 0 (pf 13).toInt (wt - sumF wf 0 nf.toNat) (pf 24)) (hfw : FwA ta ca na ma0 (tf 6).toInt nf (pf 13).toInt d wf) : MetV l y_Mpg_makeAll b_Mpg_makeAll 5 D cs (5 * d + 20) (200 * d + 700) (0) (0) [.ref h] [wdP cs h r g tf ta pf na ma wa cf ca ef ea xf xa] (oX (fun A U H => (oP A g U H) ∧ ((vk_R "HomeSystemModel$Program" 688 "main" sk U ∧ oS A sk st 4 sb U H))) [wdP cs h r g tf ta pf na ma wa cf ca ef ea xf xa]) (fun ps => ∃ (ma' : Nat → Nat → Int32) (ef' : Nat → Int32) (ea' : Nat → Nat → Int32), (ps = [wdP cs h r g tf ta pf na ma' wa cf ca ef' ea' xf xa]) ∧ (0 ≤ (ef' 60).toInt) ∧ ((ef' 60).toInt ≤ 6300) ∧ (Kc na ma ma') ∧ (PgK X9 (ea' 61) (ea' 62) nf (ef' 60).toInt) ∧ (PaK X9.L (ea' 63) nf)) := by
  refine px_enter (by decide) (Nat.le_of_ble_eq_true rfl) ?_
  intro p e s m below meth c A ls hAe S hr hlk hnm hA hT hX hw hl
  have hl : lv_has ls 5 [(0, .ref h)] := hl
  have cstm1 : ((-1) : Int32).toInt = (-1) := rfl
  have cst0 : (0 : Int32).toInt = 0 := rfl
  have cst1 : (1 : Int32).toInt = 1 := rfl
  have cst2 : (2 : Int32).toInt = 2 := rfl
  have cst15 : (15 : Int32).toInt = 15 := rfl
  have cst18 : (18 : Int32).toInt = 18 := rfl
  have cst23 : (23 : Int32).toInt = 23 := rfl
  have hX : (fun A U H => (oP A g U H) ∧ ((vk_R "HomeSystemModel$Program" 688 "main" sk U ∧ oS A sk st 4 sb U H))) A s s.heap := by rw [hAe]; exact hX
  obtain ⟨hP, hMn⟩ := hX
  have hZ := hP.1
  have hF0 := hP.2.1
  have hf11 := hft.1
  have hLS := stkc_all l D cs d
  have ht2 := hxx.2.1.2.2
  have hl01 : (([0] : List Nat).length : Int) = 1 := rfl
  have hsf0 := sumF_nn hfw (m := nf.toNat) (i := 0) (by omega)
  have hrd0 := RvE.wp hrd
  have hsg : SgQ X9 (ea 61) 0 0 (-1) [0] [0] 0 := sgq_0 (by omega)
  have J65 : ∀ (n_65 : Nat) (ma_65 : Nat → Nat → Int32) (ef_65 : Nat → Int32) (ea_65 : Nat → Nat → Int32) (x65_1 : Int32) (H : Heap) (locs : List Loc) (ls : Array Slot), (0 ≤ x65_1.toInt) → (x65_1.toInt ≤ nf) → (0 ≤ (ef_65 60).toInt) → (SwL9 wf nf x65_1.toInt (ef_65 60).toInt (wt + 1)) → (Kc na ma ma_65) → (PgK X9 (ea_65 61) (ea_65 62) x65_1.toInt (ef_65 60).toInt) → (PaK X9.L (ea_65 63) x65_1.toInt) → nf - x65_1.toInt < (n_65 : Int) → pw D A s.heap H locs [wdP cs h r g tf ta pf na ma_65 wa cf ca ef_65 ea_65 xf xa] → lv_has ls 5 [(0, .ref h), (1, .int x65_1)] → W p l e { frames := (5 * d + 20), cells := 0, slots := 0, locals := (200 * d + 700) } s m [.ref h].toArray below meth c H locs 0 0 (MQ below (va_Qv (fun ps => ∃ (ma' : Nat → Nat → Int32) (ef' : Nat → Int32) (ea' : Nat → Nat → Int32), (ps = [wdP cs h r g tf ta pf na ma' wa cf ca ef' ea' xf xa]) ∧ (0 ≤ (ef' 60).toInt) ∧ ((ef' 60).toInt ≤ 6300) ∧ (Kc na ma ma') ∧ (PgK X9 (ea' 61) (ea' 62) nf (ef' 60).toInt) ∧ (PaK X9.L (ea' 63) nf)) (pc_B D (va_A ([wdP cs h r g tf ta pf na ma wa cf ca ef ea xf xa] : List va_W).flatten s.heap.size)) (va_A ([wdP cs h r g tf ta pf na ma wa cf ca ef ea xf xa] : List va_W).flatten s.heap.size)) [.ref h].toArray s 0 0 A) (F0 m 65 ls []) := by
    intro  n_65
    induction n_65 with
    | zero =>
      intro ma_65 ef_65 ea_65 x65_1 H locs ls k65_0 k65_1 k65_2 k65_3 k65_4 k65_5 k65_6 hm hw hl
      have lx65_1 := Int32.le_toInt x65_1
      have ux65_1 := Int32.toInt_lt x65_1
      have hsm := k65_3
      have hsu := hsm.ub hfw (by omega) (by omega)
      have hkc := k65_4
      have hpg := k65_5
      have hpa := k65_6
      exact absurd hm (by omega)
    | succ n_65 ih65 =>
      intro ma_65 ef_65 ea_65 x65_1 H locs ls k65_0 k65_1 k65_2 k65_3 k65_4 k65_5 k65_6 hm hw hl
      have lx65_1 := Int32.le_toInt x65_1
      have ux65_1 := Int32.toInt_lt x65_1
      have hsm := k65_3
      have hsu := hsm.ub hfw (by omega) (by omega)
      have hkc := k65_4
      have hpg := k65_5
      have hpa := k65_6
      have J100 : ∀ (n_100 : Nat) (ma_100 : Nat → Nat → Int32) (ef_100 : Nat → Int32) (ea_100 : Nat → Nat → Int32) (mid_100 : Int) (mh_100 : Int) (wp_100 : Int) (x100_1 x100_2 x100_3 x100_4 : Int32) (H : Heap) (locs : List Loc) (ls : Array Slot), (x100_1.toInt = x65_1.toInt) → (0 ≤ x100_1.toInt) → (x100_1.toInt < nf) → (0 ≤ (ef_100 60).toInt) → (SwL9 wf nf x100_1.toInt (ef_100 60).toInt (wt + 1)) → (0 ≤ x100_3.toInt) → (x100_3.toInt ≤ 2 * mid_100) → (0 ≤ mid_100) → (mid_100 ≤ mh_100) → (mh_100 ≤ (pf 13).toInt) → ((ea_100 62 (x100_1.toInt).toNat).toInt = (ef_100 60).toInt) → (0 ≤ x100_2.toInt) → (x100_2.toInt < (pf 13).toInt) → (Kc na ma ma_100) → (NdE ca x100_1 x100_2) → (PaL na ma0 (na 17 x100_2.toNatClampNeg) x100_3.toInt x100_4) → (RvP ta (tf 6).toInt na ma0 mid_100 mh_100 wp_100 x100_4) → (PgK X9 (ea_100 61) (ea_100 62) x100_1.toInt (ef_100 60).toInt) → (PaK X9.L (ea_100 63) x100_1.toInt) → mh_100 - mid_100 < (n_100 : Int) → pw D A s.heap H locs [wdP cs h r g tf ta pf na ma_100 wa cf ca ef_100 ea_100 xf xa] → lv_has ls 5 [(0, .ref h), (1, .int x100_1), (2, .int x100_2), (3, .int x100_3), (4, .int x100_4)] → W p l e { frames := (5 * d + 20), cells := 0, slots := 0, locals := (200 * d + 700) } s m [.ref h].toArray below meth c H locs 0 0 (MQ below (va_Qv (fun ps => ∃ (ma' : Nat → Nat → Int32) (ef' : Nat → Int32) (ea' : Nat → Nat → Int32), (ps = [wdP cs h r g tf ta pf na ma' wa cf ca ef' ea' xf xa]) ∧ (0 ≤ (ef' 60).toInt) ∧ ((ef' 60).toInt ≤ 6300) ∧ (Kc na ma ma') ∧ (PgK X9 (ea' 61) (ea' 62) nf (ef' 60).toInt) ∧ (PaK X9.L (ea' 63) nf)) (pc_B D (va_A ([wdP cs h r g tf ta pf na ma wa cf ca ef ea xf xa] : List va_W).flatten s.heap.size)) (va_A ([wdP cs h r g tf ta pf na ma wa cf ca ef ea xf xa] : List va_W).flatten s.heap.size)) [.ref h].toArray s 0 0 A) (F0 m 100 ls []) := by
        intro  n_100
        induction n_100 with
        | zero =>
          intro ma_100 ef_100 ea_100 mid_100 mh_100 wp_100 x100_1 x100_2 x100_3 x100_4 H locs ls k100_0 k100_1 k100_2 k100_3 k100_4 k100_5 k100_6 k100_7 k100_8 k100_9 k100_10 k100_11 k100_12 k100_13 k100_14 k100_15 k100_16 k100_17 k100_18 hm hw hl
          have lx100_1 := Int32.le_toInt x100_1
          have ux100_1 := Int32.toInt_lt x100_1
          have lx100_2 := Int32.le_toInt x100_2
          have ux100_2 := Int32.toInt_lt x100_2
          have lx100_3 := Int32.le_toInt x100_3
          have ux100_3 := Int32.toInt_lt x100_3
          have lx100_4 := Int32.le_toInt x100_4
          have ux100_4 := Int32.toInt_lt x100_4
          have hsm := k100_4
          have hsu := hsm.ub hfw (by omega) (by omega)
          have hkc := k100_13
          have hnd : _ = _ := k100_14
          have hpl := k100_15
          have hrp := k100_16
          have hpg := k100_17
          have hpa := k100_18
          exact absurd hm (by omega)
        | succ n_100 ih100 =>
          intro ma_100 ef_100 ea_100 mid_100 mh_100 wp_100 x100_1 x100_2 x100_3 x100_4 H locs ls k100_0 k100_1 k100_2 k100_3 k100_4 k100_5 k100_6 k100_7 k100_8 k100_9 k100_10 k100_11 k100_12 k100_13 k100_14 k100_15 k100_16 k100_17 k100_18 hm hw hl
          have lx100_1 := Int32.le_toInt x100_1
          have ux100_1 := Int32.toInt_lt x100_1
          have lx100_2 := Int32.le_toInt x100_2
          have ux100_2 := Int32.toInt_lt x100_2
          have lx100_3 := Int32.le_toInt x100_3
          have ux100_3 := Int32.toInt_lt x100_3
          have lx100_4 := Int32.le_toInt x100_4
          have ux100_4 := Int32.toInt_lt x100_4
          have hsm := k100_4
          have hsu := hsm.ub hfw (by omega) (by omega)
          have hkc := k100_13
          have hnd : _ = _ := k100_14
          have hpl := k100_15
          have hrp := k100_16
          have hpg := k100_17
          have hpa := k100_18
          refine lv_iload S.x S.b d_Mpg_makeAll_100 (lv_at hl 4 rfl) ?_
          refine lv_if_lt (tgt := 135) S.x S.b d_Mpg_makeAll_102 (by decide) (fun c1 => ?_) (fun c1 => ?_)
          · have nc1 : x100_4.toInt < (0 : Int) := (i_lt (x := x100_4) (y := 0)).mp c1
            refine lv_aload_n S.x S.b d_Mpg_makeAll_135 rfl (lv_at hl 0 rfl) ?_
            refine px_get S k_Mpg hT hw 0 0 63 (v := .ref (r 63)) rfl rfl rfl (by decide) m10_62 d_Mpg_makeAll_136 ?_
            refine lv_iload_n S.x S.b d_Mpg_makeAll_139 rfl (lv_at hl 1 rfl) ?_
            refine lv_iload_n S.x S.b d_Mpg_makeAll_140 rfl (lv_at hl 3 rfl) ?_
            refine px_iast S hT hw 0 36 (n := 260) (f := (ea_100 63)) (x := x100_1) (y := x100_3) rfl gp_63 (vp_in_iff.mpr (by constructor <;> omega)) d_Mpg_makeAll_141 (w' := wdP cs h r g tf ta pf na ma_100 wa cf ca ef_100 (va_up ea_100 63 (upd (ea_100 63) x100_1.toNatClampNeg x100_3)) xf xa) (ps' := [wdP cs h r g tf ta pf na ma_100 wa cf ca ef_100 (va_up ea_100 63 (upd (ea_100 63) x100_1.toNatClampNeg x100_3)) xf xa]) sp_63 rfl (fun H locs hw => ?_)
            obtain ⟨ea3, hu_ea3⟩ : ∃ y : Nat → Nat → Int32, y = va_up ea_100 63 (upd (ea_100 63) x100_1.toNatClampNeg x100_3) := ⟨_, rfl⟩; have hw : pw D A s.heap _ _ [wdP cs h r g tf ta pf na ma_100 wa cf ca ef_100 ea3 xf xa] := (by rw [hu_ea3]; exact hw); have hj9 := cl_nat (x := x100_1) (by first | exact k100_1 | omega); have hpg2 := PgK.pa hpg hu_ea3 (by omega); obtain ⟨mm, hmm1, hmm2, hmm3⟩ := PaL.fin (ca := ca) (f := x100_1.toInt) hpl (by omega) (by omega) (by rw [hnd, show x100_1.toInt.toNat = x100_1.toNatClampNeg by omega]); have hpa2 : PaK X9.L (ea3 63) (x100_1.toInt + 1) := PaK.nx (i := x100_1.toInt) (m := mm) hpa (by omega) rfl (by rw [hu_ea3, va_up_s]) (by rw [hxx.1.2.2]; exact hmm1) (by rw [hxx.1.2.2]; exact hmm2) (by rw [hxx.1.2.2]; exact hmm3) rfl; obtain ⟨lo9, hi9, hfu, hl9, hh9⟩ := hfw x100_1.toNatClampNeg (by omega); obtain ⟨V9, vl9, vh9, l9, wb9, tl9, htb, hrk9, htl9, hbd9⟩ := fu_rk hfu (hxx.2.2 x100_1.toNatClampNeg (by omega)) hl9 hh9; have hcx := hxx.cx (x100_1.toNatClampNeg : Int); have hk41 := hfu.2.1; have hfr := hfu.1; have hwj : wf x100_1.toInt.toNat = wf x100_1.toNatClampNeg := (by rw [show x100_1.toInt.toNat = x100_1.toNatClampNeg by omega]); have hsa := hsm.at hfw (by omega) (by omega)
            refine lv_aload_n S.x S.b d_Mpg_makeAll_142 rfl (lv_at hl 0 rfl) ?_
            refine lv_aload_n S.x S.b d_Mpg_makeAll_143 rfl (lv_at hl 0 rfl) ?_
            refine px_get S k_Mpg hT hw 0 0 17 (v := .ref (r 17)) rfl rfl rfl (by decide) m10_1 d_Mpg_makeAll_144 ?_
            refine lv_aload_n S.x S.b d_Mpg_makeAll_147 rfl (lv_at hl 0 rfl) ?_
            refine px_get S k_Mpg hT hw 0 0 18 (v := .ref (r 18)) rfl rfl rfl (by decide) m10_3 d_Mpg_makeAll_148 ?_
            refine lv_iload_n S.x S.b d_Mpg_makeAll_151 rfl (lv_at hl 2 rfl) ?_
            refine px_iald S hT hw 0 14 (n := 2100) (f := (ma_100 18)) rfl gp_18 (x := x100_2) (vp_in_iff.mpr (by first | exact oz_2c9cd128cc k100_11 k100_12 g3 | (constructor <;> omega))) d_Mpg_makeAll_152 ?_
            refine lv_topi (fun z4 ez4 => ?_)
            have lz4 := Int32.le_toInt z4
            have uz4 := Int32.toInt_lt z4
            have hz152 : z4 = ma0 18 (ca 39 x100_1.toNatClampNeg).toNatClampNeg := (by rw [ez4, hkc.f (k := 18) (by decide), hnd]; exact (hab _).1 (by omega) (by omega) (by omega) (by omega) (by omega) (by omega)); have hz152i : z4.toInt = (ma0 18 (ca 39 x100_1.toNatClampNeg).toNatClampNeg).toInt := (by rw [hz152])
            refine px_iald S hT hw 0 13 (n := 2100) (f := (na 17)) rfl gp_17 (x := z4) (vp_in_iff.mpr (by constructor <;> omega)) d_Mpg_makeAll_153 ?_
            refine lv_topi (fun z5 ez5 => ?_)
            have lz5 := Int32.le_toInt z5
            have uz5 := Int32.toInt_lt z5
            have hrk_z5 : RkB ta (tf 6).toInt na ma0 ma ca V9 d (pf 13).toInt l9 hi9 wb9 tl9 2 z5 := (by rw [ez5, hz152]; exact hrk9)
            refine px_callv (pr := []) (px_runV (As := [.int z5]) (rest := []) S (c_mp_makeRow l D cs ma0 ma (X9.ys (x100_1.toNatClampNeg : Int)) (X9.ye (x100_1.toNatClampNeg : Int)) nf d l9 hi9 wb9 V9 vl9 vh9 X9 (x100_1.toNatClampNeg : Int) 0 tl9 2 h r g tf ta pf na wa cf ca xf xa ma_100 ef_100 ea3 z5  (show 0 ≤ (tf 5).toInt from by first | exact g0 | omega) (show (tf 5).toInt ≤ 2048 from by first | exact g1 | omega) (show (pf 13).toInt ≤ 2100 from by first | exact g3 | omega) (show (tf 6).toInt ≤ 2049 from by first | exact g4 | omega) (show (cf 38).toInt = nf from by first | exact g5 | omega) (show 0 ≤ nf from by first | exact g6 | omega) (show 0 ≤ (ef_100 60).toInt from by first | exact k100_3 | omega) (show 0 ≤ (x100_1.toNatClampNeg : Int) from by first | exact oz_0019f5b22e | omega) (show 1 ≤ X9.tall (x100_1.toNatClampNeg : Int) from by omega) (show tl9 ≤ X9.tall (x100_1.toNatClampNeg : Int) from by omega) (show (ef_100 60).toInt + wb9 ≤ 7000 from by omega) (show l9 ≤ hi9 from by omega) htk (FnT.eq hft (by omega)) hfp hab hkc htb hcx hrk_z5 hLS _) hT (pr := []) (pcs := [wdP cs h r g tf ta pf na ma_100 wa cf ca ef_100 ea3 xf xa]) hw (oX_call (P := (fun A U H => (oP A g U H))) (pr := []) oG_P hw hA hP) (px_recv hT hw 0 0 rfl rfl rfl) m13_122 m13_119 m13_121 ms_14_11 m1_21 q_Mpg_makeRow ⟨show (5 * d + 13) + 1 ≤ (5 * d + 20) from (by first | exact oz_9c21ebfec0 | omega), show 8 + (3 + 11) + (200 * d + 560) ≤ (200 * d + 700) from (by first | exact oz_518f07bcfb | omega)⟩ hl.1 rfl (Nat.le_of_ble_eq_true rfl) d_Mpg_makeAll_154 ⟨Nat.le_of_ble_eq_true rfl, Nat.le_of_ble_eq_true rfl⟩) hw hA (fun p12 H locs hp12 hw => ?_)
            obtain ⟨ma9, ef10, ea11, rfl, e14, e15, e16, e17, e18, e19⟩ := hp12
            have e14 : (ef_100 60).toInt ≤ (ef10 60).toInt := e14
            have e15 : (ef10 60).toInt ≤ (ef_100 60).toInt + wb9 := e15
            have e16 : CdK ea3 ea11 (ef_100 60).toInt := e16
            have e17 : Kc na ma ma9 := e17
            have hkc := e17
            have e18 : FrL l9 hi9 ma_100 ma9 := e18
            have e19 : StW X9 (ea11 61) (ef_100 60).toInt (ef10 60).toInt (x100_1.toNatClampNeg : Int) [] 0 2 (ef_100 64) (ef10 64) (ef_100 65) (ef10 65) na ma9 hi9 z5 := e19
            have hw : pw D A s.heap H locs [wdP cs h r g tf ta pf na ma9 wa cf ca ef10 ea11 xf xa] := hw
            refine lv_aload_n S.x S.b d_Mpg_makeAll_157 rfl (lv_at hl 0 rfl) ?_
            refine lv_iconst (v := 1) S.x S.b d_Mpg_makeAll_158 (by decide) ?_
            refine lv_iconst (v := 0) S.x S.b d_Mpg_makeAll_159 (by decide) ?_
            refine lv_iconst (v := 0) S.x S.b d_Mpg_makeAll_160 (by decide) ?_
            refine px_calli (pr := []) (px_runV (As := [.int 1, .int 0, .int 0]) (rest := []) S (c_mp_emit l D cs h r g tf ta pf na ma9 wa cf ca xf xa ef10 ea11 1 0 0  (show 0 ≤ (ef10 60).toInt from by first | exact oz_16d7fa9f32 e14 k100_3 | omega) (show (ef10 60).toInt < 7000 from by omega) _) hT (pr := []) (pcs := [wdP cs h r g tf ta pf na ma9 wa cf ca ef10 ea11 xf xa]) hw px_X.tt (px_recv hT hw 0 0 rfl rfl rfl) m13_86 m13_83 m13_85 ms_14_2 m1_21 q_Mpg_emit ⟨show 0 + 1 ≤ (5 * d + 20) from (by first | exact oz_e001900d6d | omega), show 8 + (4 + 11) + 0 ≤ (200 * d + 700) from (by first | exact oz_71e4de0b61 | omega)⟩ hl.1 rfl (Nat.le_of_ble_eq_true rfl) d_Mpg_makeAll_161 ⟨Nat.le_of_ble_eq_true rfl, Nat.le_of_ble_eq_true rfl⟩) hw hA (fun v25 p24 H locs hp24 hw => ?_)
            obtain ⟨ef22, ea23, rfl, e26, e27, e28, e29, e30⟩ := hp24
            have e26 : v25.toInt = (ef10 60).toInt := e26
            have e27 : (ef22 60).toInt = (ef10 60).toInt + 1 := e27
            have e28 : (ef22 64).toInt = (ef10 64).toInt := e28
            have e29 : (ef22 65).toInt = (ef10 65).toInt := e29
            have e30 : EmU ea11 ea23 (ef10 60) (1 : Int32) (0 : Int32) (0 : Int32) := e30
            have hw : pw D A s.heap H locs [wdP cs h r g tf ta pf na ma9 wa cf ca ef22 ea23 xf xa] := hw
            have lv25 := Int32.le_toInt v25
            have uv25 := Int32.toInt_lt v25
            refine lv_pop S.x S.b d_Mpg_makeAll_164 rfl ?_
            refine lv_aload_n S.x S.b d_Mpg_makeAll_165 rfl (lv_at hl 0 rfl) ?_
            refine lv_bipush (v := 18) S.x S.b d_Mpg_makeAll_166 (by decide) ?_
            refine lv_iconst (v := 0) S.x S.b d_Mpg_makeAll_168 (by decide) ?_
            refine lv_iconst (v := 0) S.x S.b d_Mpg_makeAll_169 (by decide) ?_
            refine px_calli (pr := []) (px_runV (As := [.int 18, .int 0, .int 0]) (rest := []) S (c_mp_emit l D cs h r g tf ta pf na ma9 wa cf ca xf xa ef22 ea23 18 0 0  (show 0 ≤ (ef22 60).toInt from by first | exact oz_2188d1bf01 e27 e14 k100_3 | omega) (show (ef22 60).toInt < 7000 from by omega) _) hT (pr := []) (pcs := [wdP cs h r g tf ta pf na ma9 wa cf ca ef22 ea23 xf xa]) hw px_X.tt (px_recv hT hw 0 0 rfl rfl rfl) m13_86 m13_83 m13_85 ms_14_2 m1_21 q_Mpg_emit ⟨show 0 + 1 ≤ (5 * d + 20) from (by first | exact oz_e001900d6d | omega), show 8 + (4 + 11) + 0 ≤ (200 * d + 700) from (by first | exact oz_71e4de0b61 | omega)⟩ hl.1 rfl (Nat.le_of_ble_eq_true rfl) d_Mpg_makeAll_170 ⟨Nat.le_of_ble_eq_true rfl, Nat.le_of_ble_eq_true rfl⟩) hw hA (fun v36 p35 H locs hp35 hw => ?_)
            obtain ⟨ef33, ea34, rfl, e37, e38, e39, e40, e41⟩ := hp35
            have e37 : v36.toInt = (ef22 60).toInt := e37
            have e38 : (ef33 60).toInt = (ef22 60).toInt + 1 := e38
            have e39 : (ef33 64).toInt = (ef22 64).toInt := e39
            have e40 : (ef33 65).toInt = (ef22 65).toInt := e40
            have e41 : EmU ea23 ea34 (ef22 60) (18 : Int32) (0 : Int32) (0 : Int32) := e41
            have hw : pw D A s.heap H locs [wdP cs h r g tf ta pf na ma9 wa cf ca ef33 ea34 xf xa] := hw
            have lv36 := Int32.le_toInt v36
            have uv36 := Int32.toInt_lt v36
            refine lv_pop S.x S.b d_Mpg_makeAll_173 rfl ?_
            obtain ⟨z42, ez42⟩ : ∃ y : Int32, y = x100_1 + 1 := ⟨_, rfl⟩
            have tz42 : z42.toInt = (x100_1.toInt + 1 + 2147483648) % 4294967296 - 2147483648 := by rw [ez42]; exact i_add x100_1 1
            have lz42 := Int32.le_toInt z42
            have uz42 := Int32.toInt_lt z42
            try replace tz42 : z42.toInt = x100_1.toInt + 1 := by omega
            refine lv_iinc (v := z42) (lv' := [(1, .int z42), (0, .ref h), (2, .int x100_2), (3, .int x100_3), (4, .int x100_4)]) S.x S.b d_Mpg_makeAll_174 hl (k := 1) rfl (by rw [ez42]; rfl) (by decide) rfl (fun ls hl => ?_)
            refine lv_goto (tgt := 65) S.x S.b d_Mpg_makeAll_177 (by decide) ?_
            exact ih65 ma9 ef33 ea34 z42 _ _ ls (show 0 ≤ z42.toInt from by first | exact oz_ae613611c0 tz42 k100_1 | omega) (show z42.toInt ≤ nf from by first | exact oz_588aae29aa k100_2 tz42 | omega) (show 0 ≤ (ef33 60).toInt from by first | exact oz_18e4c16450 e38 e27 e14 k100_3 | omega) (show SwL9 wf nf z42.toInt (ef33 60).toInt (wt + 1) from (hsm.nx (by omega) (by omega) (by omega) (by omega))) (show Kc na ma ma9 from hkc) (show PgK X9 (ea34 61) (ea34 62) z42.toInt (ef33 60).toInt from (PgK.fn hpg2.1 (by omega) hpg2.2 e16 e19 e30 e41 (by omega) (by omega) rfl rfl (by omega) (by omega) (by omega) (by omega) (by omega))) (show PaK X9.L (ea34 63) z42.toInt from (PaK.kp hpa2 e16 e30 e41 (by omega))) (show nf - z42.toInt < (n_65 : Int) from by omega) hw (lv_sub hl [1, 0] rfl)
          · have nc1 : ¬ x100_4.toInt < (0 : Int) := mt (i_lt (x := x100_4) (y := 0)).mpr c1
            refine lv_iload_n S.x S.b d_Mpg_makeAll_105 rfl (lv_at hl 3 rfl) ?_
            obtain ⟨md43, wv44, hm1, hm2, hm3, hpv, hx3, hrp2⟩ := RvE.step hrp (by omega)
            refine lv_aload_n S.x S.b d_Mpg_makeAll_106 rfl (lv_at hl 0 rfl) ?_
            refine px_get S k_Mpg hT hw 0 0 17 (v := .ref (r 17)) rfl rfl rfl (by decide) m10_1 d_Mpg_makeAll_107 ?_
            refine lv_iload S.x S.b d_Mpg_makeAll_110 (lv_at hl 4 rfl) ?_
            refine px_iald S hT hw 0 13 (n := 2100) (f := (na 17)) rfl gp_17 (x := x100_4) (vp_in_iff.mpr (by constructor <;> omega)) d_Mpg_makeAll_112 ?_
            refine lv_topi (fun z45 ez45 => ?_)
            have lz45 := Int32.le_toInt z45
            have uz45 := Int32.toInt_lt z45
            refine lv_if_lt (tgt := 120) S.x S.b d_Mpg_makeAll_113 (by decide) (fun c46 => ?_) (fun c46 => ?_)
            · have nc46 : z45.toInt < (0 : Int) := (i_lt (x := z45) (y := 0)).mp c46
              refine lv_iconst (v := 1) S.x S.b d_Mpg_makeAll_120 (by decide) ?_
              refine lv_iadd S.x S.b d_Mpg_makeAll_121 ?_
              refine lv_topi (fun z48 ez48 => ?_)
              have tz48 : z48.toInt = (x100_3.toInt + (1 : Int) + 2147483648) % 4294967296 - 2147483648 := by rw [ez48]; exact i_add x100_3 1
              have lz48 := Int32.le_toInt z48
              have uz48 := Int32.toInt_lt z48
              try replace tz48 : z48.toInt = x100_3.toInt + (1 : Int) := by omega
              refine lv_istore_n (lv' := [(3, .int z48), (0, .ref h), (1, .int x100_1), (2, .int x100_2), (4, .int x100_4)]) S.x S.b d_Mpg_makeAll_122 rfl hl (by decide) rfl (fun ls hl => ?_)
              refine lv_aload_n S.x S.b d_Mpg_makeAll_123 rfl (lv_at hl 1 rfl) ?_
              refine px_get S k_Mpg hT hw 0 0 21 (v := .ref (r 21)) rfl rfl rfl (by decide) m10_7 d_Mpg_makeAll_124 ?_
              refine lv_iload S.x S.b d_Mpg_makeAll_127 (lv_at hl 4 rfl) ?_
              refine px_iald S hT hw 0 17 (n := 2100) (f := (na 21)) rfl gp_21 (x := x100_4) (vp_in_iff.mpr (by constructor <;> omega)) d_Mpg_makeAll_129 ?_
              refine lv_topi (fun z49 ez49 => ?_)
              have lz49 := Int32.le_toInt z49
              have uz49 := Int32.toInt_lt z49
              refine lv_istore (lv' := [(4, .int z49), (3, .int z48), (0, .ref h), (1, .int x100_1), (2, .int x100_2)]) S.x S.b d_Mpg_makeAll_130 hl (by decide) rfl (fun ls hl => ?_)
              refine lv_goto (tgt := 100) S.x S.b d_Mpg_makeAll_132 (by decide) ?_
              exact ih100 ma_100 ef_100 ea_100 md43 mh_100 (wp_100 - wv44) x100_1 x100_2 z48 z49 _ _ ls (show x100_1.toInt = x65_1.toInt from by first | exact k100_0 | omega) (show 0 ≤ x100_1.toInt from by first | exact k100_1 | omega) (show x100_1.toInt < nf from by first | exact k100_2 | omega) (show 0 ≤ (ef_100 60).toInt from by first | exact k100_3 | omega) (show SwL9 wf nf x100_1.toInt (ef_100 60).toInt (wt + 1) from (hsm.eq (by omega) (by omega))) (show 0 ≤ z48.toInt from by first | exact oz_b3b25f0e49 tz48 k100_5 | omega) (show z48.toInt ≤ 2 * md43 from by omega) (show 0 ≤ md43 from by omega) (show md43 ≤ mh_100 from by omega) (show mh_100 ≤ (pf 13).toInt from by first | exact k100_9 | omega) (show (ea_100 62 (x100_1.toInt).toNat).toInt = (ef_100 60).toInt from by first | exact k100_10 | omega) (show 0 ≤ x100_2.toInt from by first | exact k100_11 | omega) (show x100_2.toInt < (pf 13).toInt from by first | exact k100_12 | omega) (show Kc na ma ma_100 from hkc) (show NdE ca x100_1 x100_2 from hnd) (show PaL na ma0 (na 17 x100_2.toNatClampNeg) z48.toInt z49 from (hpl.nx (by omega) ez49 (by rw [← ez45]; split <;> omega))) (show RvP ta (tf 6).toInt na ma0 md43 mh_100 (wp_100 - wv44) z49 from (by rw [ez49]; exact hrp2)) (show PgK X9 (ea_100 61) (ea_100 62) x100_1.toInt (ef_100 60).toInt from (hpg.eq (by omega) (by omega))) (show PaK X9.L (ea_100 63) x100_1.toInt from hpa) (show mh_100 - md43 < (n_100 : Int) from by omega) hw (lv_sub hl [2, 3, 4, 1, 0] rfl)
            · have nc46 : ¬ z45.toInt < (0 : Int) := mt (i_lt (x := z45) (y := 0)).mpr c46
              refine lv_iconst (v := 2) S.x S.b d_Mpg_makeAll_116 (by decide) ?_
              refine lv_goto (tgt := 121) S.x S.b d_Mpg_makeAll_117 (by decide) ?_
              refine lv_iadd S.x S.b d_Mpg_makeAll_121 ?_
              refine lv_topi (fun z50 ez50 => ?_)
              have tz50 : z50.toInt = (x100_3.toInt + (2 : Int) + 2147483648) % 4294967296 - 2147483648 := by rw [ez50]; exact i_add x100_3 2
              have lz50 := Int32.le_toInt z50
              have uz50 := Int32.toInt_lt z50
              try replace tz50 : z50.toInt = x100_3.toInt + (2 : Int) := by omega
              refine lv_istore_n (lv' := [(3, .int z50), (0, .ref h), (1, .int x100_1), (2, .int x100_2), (4, .int x100_4)]) S.x S.b d_Mpg_makeAll_122 rfl hl (by decide) rfl (fun ls hl => ?_)
              refine lv_aload_n S.x S.b d_Mpg_makeAll_123 rfl (lv_at hl 1 rfl) ?_
              refine px_get S k_Mpg hT hw 0 0 21 (v := .ref (r 21)) rfl rfl rfl (by decide) m10_7 d_Mpg_makeAll_124 ?_
              refine lv_iload S.x S.b d_Mpg_makeAll_127 (lv_at hl 4 rfl) ?_
              refine px_iald S hT hw 0 17 (n := 2100) (f := (na 21)) rfl gp_21 (x := x100_4) (vp_in_iff.mpr (by constructor <;> omega)) d_Mpg_makeAll_129 ?_
              refine lv_topi (fun z51 ez51 => ?_)
              have lz51 := Int32.le_toInt z51
              have uz51 := Int32.toInt_lt z51
              refine lv_istore (lv' := [(4, .int z51), (3, .int z50), (0, .ref h), (1, .int x100_1), (2, .int x100_2)]) S.x S.b d_Mpg_makeAll_130 hl (by decide) rfl (fun ls hl => ?_)
              refine lv_goto (tgt := 100) S.x S.b d_Mpg_makeAll_132 (by decide) ?_
              exact ih100 ma_100 ef_100 ea_100 md43 mh_100 (wp_100 - wv44) x100_1 x100_2 z50 z51 _ _ ls (show x100_1.toInt = x65_1.toInt from by first | exact k100_0 | omega) (show 0 ≤ x100_1.toInt from by first | exact k100_1 | omega) (show x100_1.toInt < nf from by first | exact k100_2 | omega) (show 0 ≤ (ef_100 60).toInt from by first | exact k100_3 | omega) (show SwL9 wf nf x100_1.toInt (ef_100 60).toInt (wt + 1) from (hsm.eq (by omega) (by omega))) (show 0 ≤ z50.toInt from by first | exact oz_6c4a1e09c3 tz50 k100_5 | omega) (show z50.toInt ≤ 2 * md43 from by omega) (show 0 ≤ md43 from by omega) (show md43 ≤ mh_100 from by omega) (show mh_100 ≤ (pf 13).toInt from by first | exact k100_9 | omega) (show (ea_100 62 (x100_1.toInt).toNat).toInt = (ef_100 60).toInt from by first | exact k100_10 | omega) (show 0 ≤ x100_2.toInt from by first | exact k100_11 | omega) (show x100_2.toInt < (pf 13).toInt from by first | exact k100_12 | omega) (show Kc na ma ma_100 from hkc) (show NdE ca x100_1 x100_2 from hnd) (show PaL na ma0 (na 17 x100_2.toNatClampNeg) z50.toInt z51 from (hpl.nx (by omega) ez51 (by rw [← ez45]; split <;> omega))) (show RvP ta (tf 6).toInt na ma0 md43 mh_100 (wp_100 - wv44) z51 from (by rw [ez51]; exact hrp2)) (show PgK X9 (ea_100 61) (ea_100 62) x100_1.toInt (ef_100 60).toInt from (hpg.eq (by omega) (by omega))) (show PaK X9.L (ea_100 63) x100_1.toInt from hpa) (show mh_100 - md43 < (n_100 : Int) from by omega) hw (lv_sub hl [2, 3, 4, 1, 0] rfl)
      refine lv_iload_n S.x S.b d_Mpg_makeAll_65 rfl (lv_at hl 1 rfl) ?_
      refine lv_aload_n S.x S.b d_Mpg_makeAll_66 rfl (lv_at hl 0 rfl) ?_
      refine px_get S k_Mpg hT hw 0 0 38 (v := .int (cf 38)) rfl rfl rfl (by decide) m10_27 d_Mpg_makeAll_67 ?_
      refine lv_icmp_ge (tgt := 180) S.x S.b d_Mpg_makeAll_70 (by decide) (fun c52 => ?_) (fun c52 => ?_)
      · have nc52 : (cf 38).toInt ≤ x65_1.toInt := (i_le (x := (cf 38)) (y := x65_1)).mp c52
        exact px_vret S hr hlk hAe hw (Nat.le_of_ble_eq_true rfl) (Nat.le_of_ble_eq_true rfl) (⟨ma_65, ef_65, ea_65, rfl, (show 0 ≤ (ef_65 60).toInt from by first | exact k65_2 | omega), (show (ef_65 60).toInt ≤ 6300 from by first | exact oz_02169018e0 hsu g8 | omega), (show Kc na ma ma_65 from hkc), (show PgK X9 (ea_65 61) (ea_65 62) nf (ef_65 60).toInt from (hpg.eq (by omega) (by omega))), (show PaK X9.L (ea_65 63) nf from (by have q9 := hpa; rw [show x65_1.toInt = nf by omega] at q9; exact q9))⟩) d_Mpg_makeAll_180
      · have nc52 : ¬ (cf 38).toInt ≤ x65_1.toInt := mt (i_le (x := (cf 38)) (y := x65_1)).mpr c52
        refine lv_aload_n S.x S.b d_Mpg_makeAll_73 rfl (lv_at hl 0 rfl) ?_
        have hj9 := cl_nat (x := x65_1) (by first | exact k65_0 | omega)
        refine px_get S k_Mpg hT hw 0 0 39 (v := .ref (r 39)) rfl rfl rfl (by decide) m10_28 d_Mpg_makeAll_74 ?_
        refine lv_iload_n S.x S.b d_Mpg_makeAll_77 rfl (lv_at hl 1 rfl) ?_
        refine px_iald S hT hw 0 26 (n := 260) (f := (ca 39)) rfl gp_39 (x := x65_1) (vp_in_iff.mpr (by first | exact oz_3bc8865c86 k65_0 k65_1 g7 | (constructor <;> omega))) d_Mpg_makeAll_78 ?_
        refine lv_topi (fun z54 ez54 => ?_)
        have lz54 := Int32.le_toInt z54
        have uz54 := Int32.toInt_lt z54
        obtain ⟨lo9, hi9, hfu, hl9, hh9⟩ := hfw x65_1.toNatClampNeg (by omega); rw [← ez54] at hfu; obtain ⟨mp, wp, hrp0, hmp⟩ := fu_pa hfu hl9 hh9
        refine lv_istore_n (lv' := [(2, .int z54), (0, .ref h), (1, .int x65_1)]) S.x S.b d_Mpg_makeAll_79 rfl hl (by decide) rfl (fun ls hl => ?_)
        refine lv_aload_n S.x S.b d_Mpg_makeAll_80 rfl (lv_at hl 1 rfl) ?_
        refine px_get S k_Mpg hT hw 0 0 62 (v := .ref (r 62)) rfl rfl rfl (by decide) m10_60 d_Mpg_makeAll_81 ?_
        refine lv_iload_n S.x S.b d_Mpg_makeAll_84 rfl (lv_at hl 2 rfl) ?_
        refine lv_aload_n S.x S.b d_Mpg_makeAll_85 rfl (lv_at hl 1 rfl) ?_
        refine px_get S k_Mpg hT hw 0 0 60 (v := .int (ef_65 60)) rfl rfl rfl (by decide) m10_57 d_Mpg_makeAll_86 ?_
        refine px_iast S hT hw 0 35 (n := 260) (f := (ea_65 62)) (x := x65_1) (y := (ef_65 60)) rfl gp_62 (vp_in_iff.mpr (by constructor <;> omega)) d_Mpg_makeAll_89 (w' := wdP cs h r g tf ta pf na ma_65 wa cf ca ef_65 (va_up ea_65 62 (upd (ea_65 62) x65_1.toNatClampNeg (ef_65 60))) xf xa) (ps' := [wdP cs h r g tf ta pf na ma_65 wa cf ca ef_65 (va_up ea_65 62 (upd (ea_65 62) x65_1.toNatClampNeg (ef_65 60))) xf xa]) sp_62 rfl (fun H locs hw => ?_)
        obtain ⟨ea55, hu_ea55⟩ : ∃ y : Nat → Nat → Int32, y = va_up ea_65 62 (upd (ea_65 62) x65_1.toNatClampNeg (ef_65 60)) := ⟨_, rfl⟩; have hw : pw D A s.heap _ _ [wdP cs h r g tf ta pf na ma_65 wa cf ca ef_65 ea55 xf xa] := (by rw [hu_ea55]; exact hw); have hpg1 := PgK.ent hpg (by omega) (by omega) hu_ea55 (by omega)
        refine lv_iconst (v := 0) S.x S.b d_Mpg_makeAll_90 (by decide) ?_
        refine lv_istore_n (lv' := [(3, .int 0), (2, .int z54), (0, .ref h), (1, .int x65_1)]) S.x S.b d_Mpg_makeAll_91 rfl hl (by decide) rfl (fun ls hl => ?_)
        refine lv_aload_n S.x S.b d_Mpg_makeAll_92 rfl (lv_at hl 2 rfl) ?_
        refine px_get S k_Mpg hT hw 0 0 17 (v := .ref (r 17)) rfl rfl rfl (by decide) m10_1 d_Mpg_makeAll_93 ?_
        refine lv_iload_n S.x S.b d_Mpg_makeAll_96 rfl (lv_at hl 1 rfl) ?_
        refine px_iald S hT hw 0 13 (n := 2100) (f := (na 17)) rfl gp_17 (x := z54) (vp_in_iff.mpr (by constructor <;> omega)) d_Mpg_makeAll_97 ?_
        refine lv_topi (fun z56 ez56 => ?_)
        have lz56 := Int32.le_toInt z56
        have uz56 := Int32.toInt_lt z56
        refine lv_istore (lv' := [(4, .int z56), (3, .int 0), (2, .int z54), (0, .ref h), (1, .int x65_1)]) S.x S.b d_Mpg_makeAll_98 hl (by decide) rfl (fun ls hl => ?_)
        exact J100 ((mp - (z54.toInt + 1)).toNat + 1) ma_65 ef_65 ea55 (z54.toInt + 1) mp wp x65_1 z54 (0 : Int32) z56 _ _ ls (show x65_1.toInt = x65_1.toInt from rfl) (show 0 ≤ x65_1.toInt from by first | exact k65_0 | omega) (show x65_1.toInt < nf from by first | exact oz_843db69ae7 g5 nc52 | omega) (show 0 ≤ (ef_65 60).toInt from by first | exact k65_2 | omega) (show SwL9 wf nf x65_1.toInt (ef_65 60).toInt (wt + 1) from (hsm.eq (by omega) (by omega))) (show 0 ≤ (0 : Int) from by first | exact oz_5a341f00aa | omega) (show (0 : Int) ≤ 2 * (z54.toInt + 1) from by omega) (show 0 ≤ (z54.toInt + 1) from by omega) (show (z54.toInt + 1) ≤ mp from by omega) (show mp ≤ (pf 13).toInt from by omega) (show (ea55 62 (x65_1.toInt).toNat).toInt = (ef_65 60).toInt from by omega) (show 0 ≤ z54.toInt from by omega) (show z54.toInt < (pf 13).toInt from by omega) (show Kc na ma ma_65 from hkc) (show NdE ca x65_1 z54 from ez54) (show PaL na ma0 (na 17 z54.toNatClampNeg) (0 : Int) z56 from (pal_0 rfl (by rw [ez56]))) (show RvP ta (tf 6).toInt na ma0 (z54.toInt + 1) mp wp z56 from (by rw [ez56]; exact hrp0)) (show PgK X9 (ea55 61) (ea55 62) x65_1.toInt (ef_65 60).toInt from ((PgK.ent hpg (by omega) (by omega) hu_ea55 (by omega)).1.eq (by omega) (by omega))) (show PaK X9.L (ea55 63) x65_1.toInt from (by rw [hu_ea55, va_up_n (by decide)]; exact hpa)) (show mp - (z54.toInt + 1) < ((((mp - (z54.toInt + 1)).toNat + 1 : Nat) : Int) : Int) from by first | exact oz_natlt | omega) hw (lv_sub hl [3, 4, 2, 1, 0] rfl)
  have J20 : ∀ (n_20 : Nat) (ef_20 : Nat → Int32) (ea_20 : Nat → Nat → Int32) (mid_20 : Int) (wr_20 : Int) (x20_1 : Int32) (H : Heap) (locs : List Loc) (ls : Array Slot), (0 ≤ (ef_20 60).toInt) → ((ef_20 60).toInt + wr_20 ≤ wt - sumF wf 0 nf.toNat) → (0 ≤ mid_20) → (mid_20 ≤ (pf 13).toInt) → (RvD ta ca na ma0 ma (tf 6).toInt nf ns d mid_20 (pf 13).toInt wr_20 x20_1) → (SgQ X9 (ea_20 61) 0 (ef_20 60).toInt (-1) [0] [0] 0) → (pf 13).toInt - mid_20 < (n_20 : Int) → pw D A s.heap H locs [wdP cs h r g tf ta pf na ma wa cf ca ef_20 ea_20 xf xa] → lv_has ls 5 [(0, .ref h), (1, .int x20_1)] → W p l e { frames := (5 * d + 20), cells := 0, slots := 0, locals := (200 * d + 700) } s m [.ref h].toArray below meth c H locs 0 0 (MQ below (va_Qv (fun ps => ∃ (ma' : Nat → Nat → Int32) (ef' : Nat → Int32) (ea' : Nat → Nat → Int32), (ps = [wdP cs h r g tf ta pf na ma' wa cf ca ef' ea' xf xa]) ∧ (0 ≤ (ef' 60).toInt) ∧ ((ef' 60).toInt ≤ 6300) ∧ (Kc na ma ma') ∧ (PgK X9 (ea' 61) (ea' 62) nf (ef' 60).toInt) ∧ (PaK X9.L (ea' 63) nf)) (pc_B D (va_A ([wdP cs h r g tf ta pf na ma wa cf ca ef ea xf xa] : List va_W).flatten s.heap.size)) (va_A ([wdP cs h r g tf ta pf na ma wa cf ca ef ea xf xa] : List va_W).flatten s.heap.size)) [.ref h].toArray s 0 0 A) (F0 m 20 ls []) := by
    intro  n_20
    induction n_20 with
    | zero =>
      intro ef_20 ea_20 mid_20 wr_20 x20_1 H locs ls k20_0 k20_1 k20_2 k20_3 k20_4 k20_5 hm hw hl
      have lx20_1 := Int32.le_toInt x20_1
      have ux20_1 := Int32.toInt_lt x20_1
      have hrd := k20_4
      have hrdw := RvE.wp hrd
      have hsg := k20_5
      exact absurd hm (by omega)
    | succ n_20 ih20 =>
      intro ef_20 ea_20 mid_20 wr_20 x20_1 H locs ls k20_0 k20_1 k20_2 k20_3 k20_4 k20_5 hm hw hl
      have lx20_1 := Int32.le_toInt x20_1
      have ux20_1 := Int32.toInt_lt x20_1
      have hrd := k20_4
      have hrdw := RvE.wp hrd
      have hsg := k20_5
      refine lv_iload_n S.x S.b d_Mpg_makeAll_20 rfl (lv_at hl 1 rfl) ?_
      refine lv_if_lt (tgt := 51) S.x S.b d_Mpg_makeAll_21 (by decide) (fun c57 => ?_) (fun c57 => ?_)
      · have nc57 : x20_1.toInt < (0 : Int) := (i_lt (x := x20_1) (y := 0)).mp c57
        refine lv_aload_n S.x S.b d_Mpg_makeAll_51 rfl (lv_at hl 0 rfl) ?_
        refine lv_bipush (v := 15) S.x S.b d_Mpg_makeAll_52 (by decide) ?_
        refine lv_aload_n S.x S.b d_Mpg_makeAll_54 rfl (lv_at hl 0 rfl) ?_
        refine px_calli (pr := []) (px_runV (As := []) (rest := [.int 15, .ref h]) S (c_mp_mainFunction l D cs sk st sb h r g tf ta pf na ma wa cf ca ef_20 ea_20 xf xa   (show 0 ≤ (cf 38).toInt from by first | exact oz_f3ebed1ad0 g5 g6 | omega) (show (tf 6).toInt ≤ 2049 from by first | exact g4 | omega) htk (FnT.eq hft (by omega)) _) hT (pr := []) (pcs := [wdP cs h r g tf ta pf na ma wa cf ca ef_20 ea_20 xf xa]) hw (oX_call (P := (fun A U H => (oP A g U H) ∧ ((vk_R "HomeSystemModel$Program" 688 "main" sk U ∧ oS A sk st 4 sb U H)))) (pr := []) (oG_and oG_P (oG_and oG_L oG_S)) hw hA ⟨hP, hMn⟩) (px_recv hT hw 0 0 rfl rfl rfl) m13_118 m13_115 m13_117 ms_14_10 m1_21 q_Mpg_mainFunction ⟨show 7 + 1 ≤ (5 * d + 20) from (by first | exact oz_87efc7dca7 | omega), show 8 + (3 + 11) + 260 ≤ (200 * d + 700) from (by first | exact oz_f456c6801a | omega)⟩ hl.1 rfl (Nat.le_of_ble_eq_true rfl) d_Mpg_makeAll_55 ⟨Nat.le_of_ble_eq_true rfl, Nat.le_of_ble_eq_true rfl⟩) hw hA (fun v60 p59 H locs hp59 hw => ?_)
        obtain ⟨rfl, e61, e62, e63, e64⟩ := hp59
        have e61 : -1 ≤ v60.toInt := e61
        have e62 : v60.toInt < (cf 38).toInt := e62
        have e63 : MfV ta na ca (tf 5).toInt sb (cf 38).toInt v60.toInt := e63
        obtain ⟨hmv, harc⟩ := mn_ok htk htr hxx (v := v60.toInt) (by have q9 := e63; rw [show (cf 38).toInt = nf by omega] at q9; exact q9)
        have e64 : R_mp_mainFunction sb tf ta na cf ca v60 := e64
        have hw : pw D A s.heap H locs [wdP cs h r g tf ta pf na ma wa cf ca ef_20 ea_20 xf xa] := hw
        have lv60 := Int32.le_toInt v60
        have uv60 := Int32.toInt_lt v60
        refine lv_iconst (v := 0) S.x S.b d_Mpg_makeAll_58 (by decide) ?_
        refine px_calli (pr := []) (px_runV (As := [.int 15, .int v60, .int 0]) (rest := []) S (c_mp_emit l D cs h r g tf ta pf na ma wa cf ca xf xa ef_20 ea_20 15 v60 0  (show 0 ≤ (ef_20 60).toInt from by first | exact k20_0 | omega) (show (ef_20 60).toInt < 7000 from by omega) _) hT (pr := []) (pcs := [wdP cs h r g tf ta pf na ma wa cf ca ef_20 ea_20 xf xa]) hw px_X.tt (px_recv hT hw 0 0 rfl rfl rfl) m13_86 m13_83 m13_85 ms_14_2 m1_21 q_Mpg_emit ⟨show 0 + 1 ≤ (5 * d + 20) from (by first | exact oz_e001900d6d | omega), show 8 + (4 + 11) + 0 ≤ (200 * d + 700) from (by first | exact oz_71e4de0b61 | omega)⟩ hl.1 rfl (Nat.le_of_ble_eq_true rfl) d_Mpg_makeAll_59 ⟨Nat.le_of_ble_eq_true rfl, Nat.le_of_ble_eq_true rfl⟩) hw hA (fun v70 p69 H locs hp69 hw => ?_)
        obtain ⟨ef67, ea68, rfl, e71, e72, e73, e74, e75⟩ := hp69
        have e71 : v70.toInt = (ef_20 60).toInt := e71
        have e72 : (ef67 60).toInt = (ef_20 60).toInt + 1 := e72
        have e73 : (ef67 64).toInt = (ef_20 64).toInt := e73
        have e74 : (ef67 65).toInt = (ef_20 65).toInt := e74
        have e75 : EmU ea_20 ea68 (ef_20 60) (15 : Int32) v60 (0 : Int32) := e75
        have hw : pw D A s.heap H locs [wdP cs h r g tf ta pf na ma wa cf ca ef67 ea68 xf xa] := hw
        have lv70 := Int32.le_toInt v70
        have uv70 := Int32.toInt_lt v70
        refine lv_pop S.x S.b d_Mpg_makeAll_62 rfl ?_
        refine lv_iconst (v := 0) S.x S.b d_Mpg_makeAll_63 (by decide) ?_
        refine lv_istore_n (lv' := [(1, .int 0), (0, .ref h)]) S.x S.b d_Mpg_makeAll_64 rfl hl (by decide) rfl (fun ls hl => ?_)
        exact J65 ((nf - (0 : Int)).toNat + 1) ma ef67 ea68 (0 : Int32) _ _ ls (show 0 ≤ (0 : Int) from by first | exact oz_5a341f00aa | omega) (show (0 : Int) ≤ nf from by first | exact oz_50c21e157e g6 | omega) (show 0 ≤ (ef67 60).toInt from by first | exact oz_ae613611c0 e72 k20_0 | omega) (show SwL9 wf nf (0 : Int) (ef67 60).toInt (wt + 1) from (swl9_0 (by omega))) (show Kc na ma ma from Kc.rf) (show PgK X9 (ea68 61) (ea68 62) (0 : Int) (ef67 60).toInt from (pgk_0 hsg e75 (by omega) rfl (by rw [hxx.1.2.1]; omega) harc (by omega) (by omega))) (show PaK X9.L (ea68 63) (0 : Int) from (fun j9 h9 => absurd h9 (by omega))) (show nf - (0 : Int) < ((((nf - (0 : Int)).toNat + 1 : Nat) : Int) : Int) from by first | exact oz_natlt | omega) hw (lv_sub hl [1, 0] rfl)
      · have nc57 : ¬ x20_1.toInt < (0 : Int) := mt (i_lt (x := x20_1) (y := 0)).mpr c57
        refine lv_aload_n S.x S.b d_Mpg_makeAll_24 rfl (lv_at hl 0 rfl) ?_
        obtain ⟨md76, wv77, hm1, hm2, hm3, hpn, hx3, hrd2⟩ := RvE.step hrd (by omega); have hrw2 := RvE.wp hrd2
        refine px_get S k_Mpg hT hw 0 0 14 (v := .ref (r 14)) rfl rfl rfl (by decide) m9_238 d_Mpg_makeAll_25 ?_
        refine lv_iload_n S.x S.b d_Mpg_makeAll_28 rfl (lv_at hl 1 rfl) ?_
        refine px_bald S hT hw 0 10 (n := 2100) (f := (na 14)) rfl gp_14 (x := x20_1) (vp_in_iff.mpr (by constructor <;> omega)) d_Mpg_makeAll_29 ?_
        refine lv_topi (fun z78 ez78 => ?_)
        have lz78 := Int32.le_toInt z78
        have uz78 := Int32.toInt_lt z78
        have rz78 : z78.toInt = (na 14 x20_1.toNatClampNeg).toInt := by rw [ez78]
        refine lv_bipush (v := 23) S.x S.b d_Mpg_makeAll_30 (by decide) ?_
        refine lv_icmp_ne (tgt := 41) S.x S.b d_Mpg_makeAll_32 (by decide) (fun c79 => ?_) (fun c79 => ?_)
        · have nc79 : ¬ z78.toInt = (23 : Int) := mt (i_eq (x := z78) (y := 23)).mpr c79
          refine lv_aload_n S.x S.b d_Mpg_makeAll_41 rfl (lv_at hl 0 rfl) ?_
          refine px_get S k_Mpg hT hw 0 0 21 (v := .ref (r 21)) rfl rfl rfl (by decide) m10_7 d_Mpg_makeAll_42 ?_
          refine lv_iload_n S.x S.b d_Mpg_makeAll_45 rfl (lv_at hl 1 rfl) ?_
          refine px_iald S hT hw 0 17 (n := 2100) (f := (na 21)) rfl gp_21 (x := x20_1) (vp_in_iff.mpr (by constructor <;> omega)) d_Mpg_makeAll_46 ?_
          refine lv_topi (fun z81 ez81 => ?_)
          have lz81 := Int32.le_toInt z81
          have uz81 := Int32.toInt_lt z81
          refine lv_istore_n (lv' := [(1, .int z81), (0, .ref h)]) S.x S.b d_Mpg_makeAll_47 rfl hl (by decide) rfl (fun ls hl => ?_)
          refine lv_goto (tgt := 20) S.x S.b d_Mpg_makeAll_48 (by decide) ?_
          exact ih20 ef_20 ea_20 md76 (wr_20 - wv77) z81 _ _ ls (show 0 ≤ (ef_20 60).toInt from by first | exact k20_0 | omega) (show (ef_20 60).toInt + (wr_20 - wv77) ≤ wt - sumF wf 0 nf.toNat from by omega) (show 0 ≤ md76 from by omega) (show md76 ≤ (pf 13).toInt from by omega) (show RvD ta ca na ma0 ma (tf 6).toInt nf ns d md76 (pf 13).toInt (wr_20 - wv77) z81 from (by rw [ez81]; exact hrd2)) (show SgQ X9 (ea_20 61) 0 (ef_20 60).toInt (-1) [0] [0] 0 from (hsg.tq (by omega) (by omega) rfl)) (show (pf 13).toInt - md76 < (n_20 : Int) from by omega) hw (lv_sub hl [1, 0] rfl)
        · have nc79 : z78.toInt = (23 : Int) := (i_eq (x := z78) (y := 23)).mp c79
          refine lv_aload_n S.x S.b d_Mpg_makeAll_35 rfl (lv_at hl 0 rfl) ?_
          obtain ⟨hsc, lo8, hi8, k8, hk8, V8, m8, htb, hsv8⟩ := hpn.2 (by omega); have hvk : VkB ta (tf 6).toInt na ma0 ma ca V8 d (pf 13).toInt (x20_1.toInt + 1) md76 wv77 1 6 (na 17 x20_1.toNatClampNeg) := ⟨(hsc.s23 (by omega) rfl).2, hsv8.rw0 hk8, fun q9 => absurd q9 (by decide), ⟨by omega, by omega⟩, Or.inr rfl⟩; have hkc : Kc na ma ma := Kc.rf; have hcx := hxx.ct
          refine lv_iload_n S.x S.b d_Mpg_makeAll_36 rfl (lv_at hl 1 rfl) ?_
          refine lv_iconst (v := 1) S.x S.b d_Mpg_makeAll_37 (by decide) ?_
          refine px_callv (pr := []) (px_runV (As := [.int x20_1, .int 1]) (rest := []) S (c_mp_makeDeclaration l D cs ma0 ma 5000 ns nf d (x20_1.toInt + 1) md76 wv77 V8 lo8 hi8 X9 (-1) 0 1 6 [0] h r g tf ta pf na ma wa cf ca xf xa ef_20 ea_20 x20_1 1  (show (pf 13).toInt ≤ 2100 from by first | exact g3 | omega) (show (tf 6).toInt ≤ 2049 from by first | exact g4 | omega) (show (cf 38).toInt = nf from by first | exact g5 | omega) (show 0 ≤ nf from by first | exact g6 | omega) (show 0 ≤ (ef_20 60).toInt from by first | exact k20_0 | omega) (show (ef_20 60).toInt + wv77 ≤ 7000 from by omega) (show ([0].length : Int) + 1 ≤ X9.tall (-1) from by omega) (show ([0].length : Int) + 1 ≤ X9.tall (-1) from by omega) (show 0 ≤ (tf 5).toInt from by first | exact g0 | omega) (show (tf 5).toInt ≤ 2048 from by first | exact g1 | omega) (show 0 ≤ x20_1.toInt from by first | exact oz_18a5c06a28 nc57 | omega) (show x20_1.toInt < (pf 13).toInt from by omega) (show 0 ≤ (1 : Int) from by first | exact oz_19c3a41681 | omega) (show (1 : Int) ≤ 1 from by first | exact oz_f9181dc4bb | omega) (show (1 : Int) = 0 → 6 = 5 from by omega) (show (x20_1.toInt + 1) ≤ md76 from by omega) htk (FnT.eq hft (by omega)) hfp hab hkc htb hcx hvk _) hT (pr := []) (pcs := [wdP cs h r g tf ta pf na ma wa cf ca ef_20 ea_20 xf xa]) hw (oX_call (P := (fun A U H => (oP A g U H))) (pr := []) oG_P hw hA hP) (px_recv hT hw 0 0 rfl rfl rfl) m13_82 m13_79 m13_81 ms_14_1 m1_21 q_Mpg_makeDeclaration ⟨show (2 * d + 12) + 1 ≤ (5 * d + 20) from (by first | exact oz_2db6136293 | omega), show 8 + (5 + 11) + (120 * d + 440) ≤ (200 * d + 700) from (by first | exact oz_d4faf94d9f | omega)⟩ hl.1 rfl (Nat.le_of_ble_eq_true rfl) d_Mpg_makeAll_38 ⟨Nat.le_of_ble_eq_true rfl, Nat.le_of_ble_eq_true rfl⟩) hw hA (fun p86 H locs hp86 hw => ?_)
          obtain ⟨ef84, ea85, rfl, e88, e89, e90, e91, e92, e93⟩ := hp86
          have e88 : (ef_20 60).toInt ≤ (ef84 60).toInt := e88
          have e89 : (ef84 64).toInt = (ef_20 64).toInt := e89
          have e90 : (ef84 65).toInt = (ef_20 65).toInt := e90
          have e91 : CdK ea_20 ea85 (ef_20 60).toInt := e91
          have e92 : SgQ X9 (ea85 61) (ef_20 60).toInt (ef84 60).toInt (-1) [0] [0] 0 := e92
          have hsg := hsg.ap e91 e92 (by omega)
          have e93 : (ef84 60).toInt ≤ (ef_20 60).toInt + wv77 := e93
          have hw : pw D A s.heap H locs [wdP cs h r g tf ta pf na ma wa cf ca ef84 ea85 xf xa] := hw
          refine lv_aload_n S.x S.b d_Mpg_makeAll_41 rfl (lv_at hl 0 rfl) ?_
          refine px_get S k_Mpg hT hw 0 0 21 (v := .ref (r 21)) rfl rfl rfl (by decide) m10_7 d_Mpg_makeAll_42 ?_
          refine lv_iload_n S.x S.b d_Mpg_makeAll_45 rfl (lv_at hl 1 rfl) ?_
          refine px_iald S hT hw 0 17 (n := 2100) (f := (na 21)) rfl gp_21 (x := x20_1) (vp_in_iff.mpr (by constructor <;> omega)) d_Mpg_makeAll_46 ?_
          refine lv_topi (fun z94 ez94 => ?_)
          have lz94 := Int32.le_toInt z94
          have uz94 := Int32.toInt_lt z94
          refine lv_istore_n (lv' := [(1, .int z94), (0, .ref h)]) S.x S.b d_Mpg_makeAll_47 rfl hl (by decide) rfl (fun ls hl => ?_)
          refine lv_goto (tgt := 20) S.x S.b d_Mpg_makeAll_48 (by decide) ?_
          exact ih20 ef84 ea85 md76 (wr_20 - wv77) z94 _ _ ls (show 0 ≤ (ef84 60).toInt from by first | exact oz_16d7fa9f32 e88 k20_0 | omega) (show (ef84 60).toInt + (wr_20 - wv77) ≤ wt - sumF wf 0 nf.toNat from by omega) (show 0 ≤ md76 from by omega) (show md76 ≤ (pf 13).toInt from by omega) (show RvD ta ca na ma0 ma (tf 6).toInt nf ns d md76 (pf 13).toInt (wr_20 - wv77) z94 from (by rw [ez94]; exact hrd2)) (show SgQ X9 (ea85 61) 0 (ef84 60).toInt (-1) [0] [0] 0 from (hsg.tq (by omega) (by omega) rfl)) (show (pf 13).toInt - md76 < (n_20 : Int) from by omega) hw (lv_sub hl [1, 0] rfl)
  refine lv_aload_n S.x S.b d_Mpg_makeAll_0 rfl (lv_at hl 0 rfl) ?_
  refine lv_iconst (v := 0) S.x S.b d_Mpg_makeAll_1 (by decide) ?_
  refine px_put S k_Mpg hT hw 0 0 60 rfl rfl (by decide) m10_57 rfl rfl rfl (Nat.le_of_ble_eq_true rfl) d_Mpg_makeAll_2 (w' := wdP cs h r g tf ta pf na ma wa cf ca (upd ef 60 0) ea xf xa) (ps' := [wdP cs h r g tf ta pf na ma wa cf ca (upd ef 60 0) ea xf xa]) rfl rfl (fun H locs hw => ?_)
  obtain ⟨ef95, hu_ef95⟩ : ∃ y : Nat → Int32, y = upd ef 60 (0 : Int32) := ⟨_, rfl⟩; have hw : pw D A s.heap _ _ [wdP cs h r g tf ta pf na ma wa cf ca ef95 ea xf xa] := (by rw [hu_ef95]; exact hw); have hn60_ef95 : (ef95 60).toInt = (0 : Int) := (by rw [hu_ef95, pk_us]; rfl); have hn64_ef95 : (ef95 64).toInt = (ef 64).toInt := (by rw [hu_ef95, pk_un (by decide)]); have hn65_ef95 : (ef95 65).toInt = (ef 65).toInt := (by rw [hu_ef95, pk_un (by decide)])
  refine lv_aload_n S.x S.b d_Mpg_makeAll_5 rfl (lv_at hl 0 rfl) ?_
  refine lv_iconst (v := (-1)) S.x S.b d_Mpg_makeAll_6 (by decide) ?_
  refine px_put S k_Mpg hT hw 0 0 64 rfl rfl (by decide) m10_64 rfl rfl rfl (Nat.le_of_ble_eq_true rfl) d_Mpg_makeAll_7 (w' := wdP cs h r g tf ta pf na ma wa cf ca (upd ef95 64 (-1)) ea xf xa) (ps' := [wdP cs h r g tf ta pf na ma wa cf ca (upd ef95 64 (-1)) ea xf xa]) rfl rfl (fun H locs hw => ?_)
  obtain ⟨ef96, hu_ef96⟩ : ∃ y : Nat → Int32, y = upd ef95 64 (-1 : Int32) := ⟨_, rfl⟩; have hw : pw D A s.heap _ _ [wdP cs h r g tf ta pf na ma wa cf ca ef96 ea xf xa] := (by rw [hu_ef96]; exact hw); have hn60_ef96 : (ef96 60).toInt = (ef95 60).toInt := (by rw [hu_ef96, pk_un (by decide)]); have hn64_ef96 : (ef96 64).toInt = (-1 : Int) := (by rw [hu_ef96, pk_us]; rfl); have hn65_ef96 : (ef96 65).toInt = (ef95 65).toInt := (by rw [hu_ef96, pk_un (by decide)])
  refine lv_aload_n S.x S.b d_Mpg_makeAll_10 rfl (lv_at hl 0 rfl) ?_
  refine lv_iconst (v := (-1)) S.x S.b d_Mpg_makeAll_11 (by decide) ?_
  refine px_put S k_Mpg hT hw 0 0 65 rfl rfl (by decide) m10_65 rfl rfl rfl (Nat.le_of_ble_eq_true rfl) d_Mpg_makeAll_12 (w' := wdP cs h r g tf ta pf na ma wa cf ca (upd ef96 65 (-1)) ea xf xa) (ps' := [wdP cs h r g tf ta pf na ma wa cf ca (upd ef96 65 (-1)) ea xf xa]) rfl rfl (fun H locs hw => ?_)
  obtain ⟨ef97, hu_ef97⟩ : ∃ y : Nat → Int32, y = upd ef96 65 (-1 : Int32) := ⟨_, rfl⟩; have hw : pw D A s.heap _ _ [wdP cs h r g tf ta pf na ma wa cf ca ef97 ea xf xa] := (by rw [hu_ef97]; exact hw); have hn60_ef97 : (ef97 60).toInt = (ef96 60).toInt := (by rw [hu_ef97, pk_un (by decide)]); have hn64_ef97 : (ef97 64).toInt = (ef96 64).toInt := (by rw [hu_ef97, pk_un (by decide)]); have hn65_ef97 : (ef97 65).toInt = (-1 : Int) := (by rw [hu_ef97, pk_us]; rfl)
  refine lv_aload_n S.x S.b d_Mpg_makeAll_15 rfl (lv_at hl 0 rfl) ?_
  refine px_get S k_Mpg hT hw 0 0 24 (v := .int (pf 24)) rfl rfl rfl (by decide) m10_12 d_Mpg_makeAll_16 ?_
  refine lv_istore_n (lv' := [(1, .int (pf 24)), (0, .ref h)]) S.x S.b d_Mpg_makeAll_19 rfl hl (by decide) rfl (fun ls hl => ?_)
  exact J20 (((pf 13).toInt - 0).toNat + 1) ef97 ea 0 (wt - sumF wf 0 nf.toNat) (pf 24) _ _ ls (show 0 ≤ (ef97 60).toInt from by first | exact oz_d274c80cf8 hn60_ef97 hn60_ef96 hn60_ef95 | omega) (show (ef97 60).toInt + (wt - sumF wf 0 nf.toNat) ≤ wt - sumF wf 0 nf.toNat from by omega) (show 0 ≤ 0 from by omega) (show 0 ≤ (pf 13).toInt from by first | exact g2 | omega) (show RvD ta ca na ma0 ma (tf 6).toInt nf ns d 0 (pf 13).toInt (wt - sumF wf 0 nf.toNat) (pf 24) from hrd) (show SgQ X9 (ea 61) 0 (ef97 60).toInt (-1) [0] [0] 0 from (hsg.tq (by omega) (by omega) rfl)) (show (pf 13).toInt - 0 < (((((pf 13).toInt - 0).toNat + 1 : Nat) : Int) : Int) from by first | exact oz_natlt | omega) hw (lv_sub hl [1, 0] rfl)
