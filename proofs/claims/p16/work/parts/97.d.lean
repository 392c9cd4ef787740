abbrev b_Mpg_switching : ByteArray := prog_16_method_56_code
def y_Mpg_switching : MethodName := ⟨"HomeSystemModel$Program", "switching", "()I"⟩
theorem d_Mpg_switching_0 : decode b_Mpg_switching 0 = .ok (.aload_n 0, 1) := by decide +kernel
theorem d_Mpg_switching_1 : decode b_Mpg_switching 1 = .ok (.bipush 28, 2) := by decide +kernel
theorem d_Mpg_switching_3 : decode b_Mpg_switching 3 = .ok (.aload_n 0, 1) := by decide +kernel
theorem d_Mpg_switching_4 : decode b_Mpg_switching 4 = .ok (.getfield 360, 3) := by decide +kernel
theorem d_Mpg_switching_7 : decode b_Mpg_switching 7 = .ok (.invokevirtual 406, 3) := by decide +kernel
theorem d_Mpg_switching_10 : decode b_Mpg_switching 10 = .ok (.istore_n 1, 1) := by decide +kernel
theorem d_Mpg_switching_11 : decode b_Mpg_switching 11 = .ok (.aload_n 0, 1) := by decide +kernel
theorem d_Mpg_switching_12 : decode b_Mpg_switching 12 = .ok (.invokevirtual 383, 3) := by decide +kernel
theorem d_Mpg_switching_15 : decode b_Mpg_switching 15 = .ok (.aload_n 0, 1) := by decide +kernel
theorem d_Mpg_switching_16 : decode b_Mpg_switching 16 = .ok (.getfield 216, 3) := by decide +kernel
theorem d_Mpg_switching_19 : decode b_Mpg_switching 19 = .ok (.iload_n 1, 1) := by decide +kernel
theorem d_Mpg_switching_20 : decode b_Mpg_switching 20 = .ok (.aload_n 0, 1) := by decide +kernel
theorem d_Mpg_switching_21 : decode b_Mpg_switching 21 = .ok (.invokevirtual 494, 3) := by decide +kernel
theorem d_Mpg_switching_24 : decode b_Mpg_switching 24 = .ok (.iastore, 1) := by decide +kernel
theorem d_Mpg_switching_25 : decode b_Mpg_switching 25 = .ok (.aload_n 0, 1) := by decide +kernel
theorem d_Mpg_switching_26 : decode b_Mpg_switching 26 = .ok (.ldc 91, 2) := by decide +kernel
theorem d_Mpg_switching_28 : decode b_Mpg_switching 28 = .ok (.invokevirtual 457, 3) := by decide +kernel
theorem d_Mpg_switching_31 : decode b_Mpg_switching 31 = .ok (.iconst (-1), 1) := by decide +kernel
theorem d_Mpg_switching_32 : decode b_Mpg_switching 32 = .ok (.istore_n 2, 1) := by decide +kernel
theorem d_Mpg_switching_33 : decode b_Mpg_switching 33 = .ok (.aload_n 0, 1) := by decide +kernel
theorem d_Mpg_switching_34 : decode b_Mpg_switching 34 = .ok (.ldc 93, 2) := by decide +kernel
theorem d_Mpg_switching_36 : decode b_Mpg_switching 36 = .ok (.invokevirtual 366, 3) := by decide +kernel
theorem d_Mpg_switching_39 : decode b_Mpg_switching 39 = .ok (.ifCond .ne 134, 3) := by decide +kernel
theorem d_Mpg_switching_42 : decode b_Mpg_switching 42 = .ok (.iconst (-1), 1) := by decide +kernel
theorem d_Mpg_switching_43 : decode b_Mpg_switching 43 = .ok (.istore_n 3, 1) := by decide +kernel
theorem d_Mpg_switching_44 : decode b_Mpg_switching 44 = .ok (.aload_n 0, 1) := by decide +kernel
theorem d_Mpg_switching_45 : decode b_Mpg_switching 45 = .ok (.bipush 10, 2) := by decide +kernel
theorem d_Mpg_switching_47 : decode b_Mpg_switching 47 = .ok (.invokevirtual 377, 3) := by decide +kernel
theorem d_Mpg_switching_50 : decode b_Mpg_switching 50 = .ok (.ifCond .eq 43, 3) := by decide +kernel
theorem d_Mpg_switching_53 : decode b_Mpg_switching 53 = .ok (.aload_n 0, 1) := by decide +kernel
theorem d_Mpg_switching_54 : decode b_Mpg_switching 54 = .ok (.bipush 29, 2) := by decide +kernel
theorem d_Mpg_switching_56 : decode b_Mpg_switching 56 = .ok (.aload_n 0, 1) := by decide +kernel
theorem d_Mpg_switching_57 : decode b_Mpg_switching 57 = .ok (.getfield 360, 3) := by decide +kernel
theorem d_Mpg_switching_60 : decode b_Mpg_switching 60 = .ok (.invokevirtual 406, 3) := by decide +kernel
theorem d_Mpg_switching_63 : decode b_Mpg_switching 63 = .ok (.istore_n 3, 1) := by decide +kernel
theorem d_Mpg_switching_64 : decode b_Mpg_switching 64 = .ok (.aload_n 0, 1) := by decide +kernel
theorem d_Mpg_switching_65 : decode b_Mpg_switching 65 = .ok (.dup, 1) := by decide +kernel
theorem d_Mpg_switching_66 : decode b_Mpg_switching 66 = .ok (.getfield 360, 3) := by decide +kernel
theorem d_Mpg_switching_69 : decode b_Mpg_switching 69 = .ok (.iconst 1, 1) := by decide +kernel
theorem d_Mpg_switching_70 : decode b_Mpg_switching 70 = .ok (.iadd, 1) := by decide +kernel
theorem d_Mpg_switching_71 : decode b_Mpg_switching 71 = .ok (.putfield 360, 3) := by decide +kernel
theorem d_Mpg_switching_74 : decode b_Mpg_switching 74 = .ok (.aload_n 0, 1) := by decide +kernel
theorem d_Mpg_switching_75 : decode b_Mpg_switching 75 = .ok (.getfield 216, 3) := by decide +kernel
theorem d_Mpg_switching_78 : decode b_Mpg_switching 78 = .ok (.iload_n 3, 1) := by decide +kernel
theorem d_Mpg_switching_79 : decode b_Mpg_switching 79 = .ok (.aload_n 0, 1) := by decide +kernel
theorem d_Mpg_switching_80 : decode b_Mpg_switching 80 = .ok (.invokevirtual 451, 3) := by decide +kernel
theorem d_Mpg_switching_83 : decode b_Mpg_switching 83 = .ok (.iastore, 1) := by decide +kernel
theorem d_Mpg_switching_84 : decode b_Mpg_switching 84 = .ok (.aload_n 0, 1) := by decide +kernel
theorem d_Mpg_switching_85 : decode b_Mpg_switching 85 = .ok (.ldc 103, 2) := by decide +kernel
theorem d_Mpg_switching_87 : decode b_Mpg_switching 87 = .ok (.invokevirtual 386, 3) := by decide +kernel
theorem d_Mpg_switching_90 : decode b_Mpg_switching 90 = .ok (.goto 60, 3) := by decide +kernel
theorem d_Mpg_switching_93 : decode b_Mpg_switching 93 = .ok (.aload_n 0, 1) := by decide +kernel
theorem d_Mpg_switching_94 : decode b_Mpg_switching 94 = .ok (.bipush 11, 2) := by decide +kernel
theorem d_Mpg_switching_96 : decode b_Mpg_switching 96 = .ok (.invokevirtual 377, 3) := by decide +kernel
theorem d_Mpg_switching_99 : decode b_Mpg_switching 99 = .ok (.ifCond .eq 33, 3) := by decide +kernel
theorem d_Mpg_switching_102 : decode b_Mpg_switching 102 = .ok (.aload_n 0, 1) := by decide +kernel
theorem d_Mpg_switching_103 : decode b_Mpg_switching 103 = .ok (.bipush 30, 2) := by decide +kernel
theorem d_Mpg_switching_105 : decode b_Mpg_switching 105 = .ok (.aload_n 0, 1) := by decide +kernel
theorem d_Mpg_switching_106 : decode b_Mpg_switching 106 = .ok (.getfield 360, 3) := by decide +kernel
theorem d_Mpg_switching_109 : decode b_Mpg_switching 109 = .ok (.invokevirtual 406, 3) := by decide +kernel
theorem d_Mpg_switching_112 : decode b_Mpg_switching 112 = .ok (.istore_n 3, 1) := by decide +kernel
theorem d_Mpg_switching_113 : decode b_Mpg_switching 113 = .ok (.aload_n 0, 1) := by decide +kernel
theorem d_Mpg_switching_114 : decode b_Mpg_switching 114 = .ok (.dup, 1) := by decide +kernel
theorem d_Mpg_switching_115 : decode b_Mpg_switching 115 = .ok (.getfield 360, 3) := by decide +kernel
theorem d_Mpg_switching_118 : decode b_Mpg_switching 118 = .ok (.iconst 1, 1) := by decide +kernel
theorem d_Mpg_switching_119 : decode b_Mpg_switching 119 = .ok (.iadd, 1) := by decide +kernel
theorem d_Mpg_switching_120 : decode b_Mpg_switching 120 = .ok (.putfield 360, 3) := by decide +kernel
theorem d_Mpg_switching_123 : decode b_Mpg_switching 123 = .ok (.aload_n 0, 1) := by decide +kernel
theorem d_Mpg_switching_124 : decode b_Mpg_switching 124 = .ok (.ldc 103, 2) := by decide +kernel
theorem d_Mpg_switching_126 : decode b_Mpg_switching 126 = .ok (.invokevirtual 386, 3) := by decide +kernel
theorem d_Mpg_switching_129 : decode b_Mpg_switching 129 = .ok (.goto 21, 3) := by decide +kernel
theorem d_Mpg_switching_132 : decode b_Mpg_switching 132 = .ok (.aload_n 0, 1) := by decide +kernel
theorem d_Mpg_switching_133 : decode b_Mpg_switching 133 = .ok (.iload_n 2, 1) := by decide +kernel
theorem d_Mpg_switching_134 : decode b_Mpg_switching 134 = .ok (.ifCond .lt 7, 3) := by decide +kernel
theorem d_Mpg_switching_137 : decode b_Mpg_switching 137 = .ok (.iconst 1, 1) := by decide +kernel
theorem d_Mpg_switching_138 : decode b_Mpg_switching 138 = .ok (.goto 4, 3) := by decide +kernel
theorem d_Mpg_switching_141 : decode b_Mpg_switching 141 = .ok (.iconst 0, 1) := by decide +kernel
theorem d_Mpg_switching_142 : decode b_Mpg_switching 142 = .ok (.invokevirtual 373, 3) := by decide +kernel
theorem d_Mpg_switching_145 : decode b_Mpg_switching 145 = .ok (.aload_n 0, 1) := by decide +kernel
theorem d_Mpg_switching_146 : decode b_Mpg_switching 146 = .ok (.invokevirtual 463, 3) := by decide +kernel
theorem d_Mpg_switching_149 : decode b_Mpg_switching 149 = .ok (.istore_n 3, 1) := by decide +kernel
theorem d_Mpg_switching_150 : decode b_Mpg_switching 150 = .ok (.aload_n 0, 1) := by decide +kernel
theorem d_Mpg_switching_151 : decode b_Mpg_switching 151 = .ok (.getfield 219, 3) := by decide +kernel
theorem d_Mpg_switching_154 : decode b_Mpg_switching 154 = .ok (.iload_n 1, 1) := by decide +kernel
theorem d_Mpg_switching_155 : decode b_Mpg_switching 155 = .ok (.aload_n 0, 1) := by decide +kernel
theorem d_Mpg_switching_156 : decode b_Mpg_switching 156 = .ok (.aload_n 0, 1) := by decide +kernel
theorem d_Mpg_switching_157 : decode b_Mpg_switching 157 = .ok (.getfield 219, 3) := by decide +kernel
theorem d_Mpg_switching_160 : decode b_Mpg_switching 160 = .ok (.iload_n 1, 1) := by decide +kernel
theorem d_Mpg_switching_161 : decode b_Mpg_switching 161 = .ok (.iaload, 1) := by decide +kernel
theorem d_Mpg_switching_162 : decode b_Mpg_switching 162 = .ok (.iload_n 2, 1) := by decide +kernel
theorem d_Mpg_switching_163 : decode b_Mpg_switching 163 = .ok (.iload_n 3, 1) := by decide +kernel
theorem d_Mpg_switching_164 : decode b_Mpg_switching 164 = .ok (.invokevirtual 466, 3) := by decide +kernel
theorem d_Mpg_switching_167 : decode b_Mpg_switching 167 = .ok (.iastore, 1) := by decide +kernel
theorem d_Mpg_switching_168 : decode b_Mpg_switching 168 = .ok (.iload_n 3, 1) := by decide +kernel
theorem d_Mpg_switching_169 : decode b_Mpg_switching 169 = .ok (.istore_n 2, 1) := by decide +kernel
theorem d_Mpg_switching_170 : decode b_Mpg_switching 170 = .ok (.goto (-137), 3) := by decide +kernel
theorem d_Mpg_switching_173 : decode b_Mpg_switching 173 = .ok (.aload_n 0, 1) := by decide +kernel
theorem d_Mpg_switching_174 : decode b_Mpg_switching 174 = .ok (.ldc 93, 2) := by decide +kernel
theorem d_Mpg_switching_176 : decode b_Mpg_switching 176 = .ok (.invokevirtual 439, 3) := by decide +kernel
theorem d_Mpg_switching_179 : decode b_Mpg_switching 179 = .ok (.aload_n 0, 1) := by decide +kernel
theorem d_Mpg_switching_180 : decode b_Mpg_switching 180 = .ok (.dup, 1) := by decide +kernel
theorem d_Mpg_switching_181 : decode b_Mpg_switching 181 = .ok (.getfield 380, 3) := by decide +kernel
theorem d_Mpg_switching_184 : decode b_Mpg_switching 184 = .ok (.iconst 1, 1) := by decide +kernel
theorem d_Mpg_switching_185 : decode b_Mpg_switching 185 = .ok (.isub, 1) := by decide +kernel
theorem d_Mpg_switching_186 : decode b_Mpg_switching 186 = .ok (.putfield 380, 3) := by decide +kernel
theorem d_Mpg_switching_189 : decode b_Mpg_switching 189 = .ok (.iload_n 1, 1) := by decide +kernel
theorem d_Mpg_switching_190 : decode b_Mpg_switching 190 = .ok (.ireturn, 1) := by decide +kernel
theorem q_Mpg_switching : px_y y_Mpg_switching 0 := by unfold px_y; decide +kernel
set_option maxHeartbeats 4000000 in
set_option maxRecDepth 100000 in
theorem c_mp_switching (l : Launch) (D : va_G) (cs : Nat → ClassId) (h : Nat) (r : Nat → Nat) (g : Nat → Nat → Option Nat) (tf : Nat → Int32) (ta : Nat → Nat → Int32) (cf : Nat → Int32) (ca : Nat → Nat → Int32) (ef : Nat → Int32) (ea : Nat → Nat → Int32) (xf : Nat → Int32) (xa : Nat → Nat → Int32) (pf : Nat → Int32) (na : Nat → Nat → Int32) (ma : Nat → Nat → Int32) (wa : Nat → Nat → Int32) (lv : Nat) (g0 : 0 ≤ (pf 11).toInt) (g1 : (pf 11).toInt < (tf 6).toInt) (g2 : (tf 6).toInt ≤ 2049) (g3 : 0 ≤ (pf 12).toInt) (g4 : (pf 12).toInt ≤ 60) (g5 : 0 ≤ (pf 13).toInt) (g6 : (pf 13).toInt ≤ (pf 11).toInt + 10) (g7 : 0 ≤ (pf 26).toInt) (g8 : (pf 26).toInt ≤ (pf 12).toInt) (g9 : 61 ≤ (pf 12).toInt + (lv : Int)) (g10 : lv ≤ 61) (g11 : (pf 11).toInt + 1 < (tf 6).toInt) (hlf : l.flags = pinnedFlags ++ [noTraceFlag]) (htk : TkI tf ta) (hLT : LvT l D cs lv) : ThI l y_Mpg_switching b_Mpg_switching 4 (.int) D cs (8 * lv + 26) (220 * lv + 1200) [.ref h] [wdP cs h r g tf ta pf na ma wa cf ca ef ea xf xa] (oX (fun A U H => (oN A U H) ∧ (oP A g U H)) [wdP cs h r g tf ta pf na ma wa cf ca ef ea xf xa]) "java/lang/IllegalArgumentException" (fun v ps => ∃ (pf' : Nat → Int32) (na' : Nat → Nat → Int32) (ma' : Nat → Nat → Int32) (wa' : Nat → Nat → Int32), (ps = [wdP cs h r g tf ta pf' na' ma' wa' cf ca ef ea xf xa]) ∧ ((pf 11).toInt + 1 ≤ (pf' 11).toInt) ∧ ((pf' 11).toInt < (tf 6).toInt) ∧ ((pf 13).toInt + 1 ≤ (pf' 13).toInt) ∧ ((pf' 13).toInt - (pf 13).toInt ≤ (pf' 11).toInt - (pf 11).toInt) ∧ (bp ta (pf 11) + 1 ≤ bp ta (pf' 11)) ∧ ((pf' 12).toInt = (pf 12).toInt) ∧ ((pf' 24).toInt = (pf 24).toInt) ∧ ((pf' 25).toInt = (pf 25).toInt) ∧ ((pf' 26).toInt = (pf 26).toInt) ∧ (FrB (pf 13).toInt na ma na' ma') ∧ (FrW (pf 26).toInt wa wa') ∧ (VlS ta (tf 6).toInt na' ma' v (pf 13).toInt (pf' 13).toInt (3 * (bp ta (pf' 11) - bp ta (pf 11))) (200 - (pf 12).toInt))) (fun ps => ∃ (pf' : Nat → Int32) (na' : Nat → Nat → Int32) (ma' : Nat → Nat → Int32) (wa' : Nat → Nat → Int32), ps = [wdP cs h r g tf ta pf' na' ma' wa' cf ca ef ea xf xa] ∧ 0 ≤ (pf' 11).toInt ∧ (pf' 11).toInt + 1 ≤ (tf 6).toInt) := by
  refine th_enter (by decide) (Nat.le_of_ble_eq_true rfl) ?_
  intro p e s m below meth c A ls hAe S hr hlk hnm hA hT hX hw hl hne hadm
  have hl : lv_has ls 4 [(0, .ref h)] := hl
  have cstm1 : ((-1) : Int32).toInt = (-1) := rfl
  have cst0 : (0 : Int32).toInt = 0 := rfl
  have cst1 : (1 : Int32).toInt = 1 := rfl
  have cst10 : (10 : Int32).toInt = 10 := rfl
  have cst11 : (11 : Int32).toInt = 11 := rfl
  have cst28 : (28 : Int32).toInt = 28 := rfl
  have cst29 : (29 : Int32).toInt = 29 := rfl
  have cst30 : (30 : Int32).toInt = 30 := rfl
  have hX : (fun A U H => (oN A U H) ∧ (oP A g U H)) A s s.heap := by rw [hAe]; exact hX
  obtain ⟨hN, hP⟩ := hX
  have hZ := hP.1
  have hF0 := hP.2.1
  have hfb : FrB (pf 13).toInt na ma na ma := FrB.rf
  have hfw : FrW (pf 26).toInt wa wa := FrW.rf
  have J33 : ∀ (n_33 : Nat) (pf_33 : Nat → Int32) (na_33 : Nat → Nat → Int32) (ma_33 : Nat → Nat → Int32) (wa_33 : Nat → Nat → Int32) (x33_1 x33_2 : Int32) (H : Heap) (locs : List Loc) (ls : Array Slot), ((pf_33 24).toInt = (pf 24).toInt) → ((pf_33 25).toInt = (pf 25).toInt) → ((pf_33 26).toInt = (pf 26).toInt) → ((pf_33 12).toInt = (pf 12).toInt + 2) → ((pf_33 12).toInt ≤ 60) → ((pf 11).toInt + 2 ≤ (pf_33 11).toInt) → ((pf_33 11).toInt < (tf 6).toInt) → (x33_1.toInt = (pf 13).toInt) → (x33_1.toInt < (pf_33 13).toInt) → ((pf_33 13).toInt - (pf 13).toInt ≤ (pf_33 11).toInt - (pf 11).toInt) → (bp ta (pf 11) + 2 ≤ bp ta (pf_33 11)) → (x33_2.toInt = -1 ∨ x33_1.toInt + 1 ≤ x33_2.toInt) → (x33_2.toInt < (pf_33 13).toInt) → (FrB (pf 13).toInt na ma na_33 ma_33) → (FrW (pf 26).toInt wa wa_33) → (NdF (tf 6).toInt na_33 x33_1 28 (pf 11)) → (SwV ta (tf 6).toInt na_33 ma_33 x33_1 x33_2 (pf_33 13).toInt (3 * (bp ta (pf_33 11) - bp ta (pf 11)) - 3) (198 - (pf 12).toInt)) → (tf 6).toInt - (pf_33 11).toInt < (n_33 : Int) → pw D A s.heap H locs [wdP cs h r g tf ta pf_33 na_33 ma_33 wa_33 cf ca ef ea xf xa] → lv_has ls 4 [(0, .ref h), (1, .int x33_1), (2, .int x33_2)] → W p l e { frames := (8 * lv + 26), cells := 1, slots := 6, locals := (220 * lv + 1200) } s m [.ref h].toArray below meth c H locs 0 0 (tx_MQ below (thQi D (va_A ([wdP cs h r g tf ta pf na ma wa cf ca ef ea xf xa] : List va_W).flatten s.heap.size) "java/lang/IllegalArgumentException" (fun v ps => ∃ (pf' : Nat → Int32) (na' : Nat → Nat → Int32) (ma' : Nat → Nat → Int32) (wa' : Nat → Nat → Int32), (ps = [wdP cs h r g tf ta pf' na' ma' wa' cf ca ef ea xf xa]) ∧ ((pf 11).toInt + 1 ≤ (pf' 11).toInt) ∧ ((pf' 11).toInt < (tf 6).toInt) ∧ ((pf 13).toInt + 1 ≤ (pf' 13).toInt) ∧ ((pf' 13).toInt - (pf 13).toInt ≤ (pf' 11).toInt - (pf 11).toInt) ∧ (bp ta (pf 11) + 1 ≤ bp ta (pf' 11)) ∧ ((pf' 12).toInt = (pf 12).toInt) ∧ ((pf' 24).toInt = (pf 24).toInt) ∧ ((pf' 25).toInt = (pf 25).toInt) ∧ ((pf' 26).toInt = (pf 26).toInt) ∧ (FrB (pf 13).toInt na ma na' ma') ∧ (FrW (pf 26).toInt wa wa') ∧ (VlS ta (tf 6).toInt na' ma' v (pf 13).toInt (pf' 13).toInt (3 * (bp ta (pf' 11) - bp ta (pf 11))) (200 - (pf 12).toInt))) (fun ps => ∃ (pf' : Nat → Int32) (na' : Nat → Nat → Int32) (ma' : Nat → Nat → Int32) (wa' : Nat → Nat → Int32), ps = [wdP cs h r g tf ta pf' na' ma' wa' cf ca ef ea xf xa] ∧ 0 ≤ (pf' 11).toInt ∧ (pf' 11).toInt + 1 ≤ (tf 6).toInt) s.heap.size (tot s.heap)) [.ref h].toArray s 1 6 A) (F0 m 33 ls []) := by
    intro  n_33
    induction n_33 with
    | zero =>
      intro pf_33 na_33 ma_33 wa_33 x33_1 x33_2 H locs ls k33_0 k33_1 k33_2 k33_3 k33_4 k33_5 k33_6 k33_7 k33_8 k33_9 k33_10 k33_11 k33_12 k33_13 k33_14 k33_15 k33_16 hm hw hl
      have lx33_1 := Int32.le_toInt x33_1
      have ux33_1 := Int32.toInt_lt x33_1
      have lx33_2 := Int32.le_toInt x33_2
      have ux33_2 := Int32.toInt_lt x33_2
      have hfb := k33_13
      have hfw := k33_14
      have hf_14_x33_1 := k33_15.2.1
      have hf_15_x33_1 := k33_15.2.2.1
      have hf_21_x33_1 := k33_15.2.2.2.2
      have hnt_x33_1 := k33_15.2.2.2.1
      obtain ⟨a17, b18, m17, Wa17, Wr17, hf_17_x33_1, hf_18_x33_1, hm17, hm18, hv_a17, hz_x33_2, hW17, hW18, hx17⟩ := k33_16
      have hn_a17 := hv_a17.num fe_ok
      exact absurd hm (by omega)
    | succ n_33 ih33 =>
      intro pf_33 na_33 ma_33 wa_33 x33_1 x33_2 H locs ls k33_0 k33_1 k33_2 k33_3 k33_4 k33_5 k33_6 k33_7 k33_8 k33_9 k33_10 k33_11 k33_12 k33_13 k33_14 k33_15 k33_16 hm hw hl
      have lx33_1 := Int32.le_toInt x33_1
      have ux33_1 := Int32.toInt_lt x33_1
      have lx33_2 := Int32.le_toInt x33_2
      have ux33_2 := Int32.toInt_lt x33_2
      have hfb := k33_13
      have hfw := k33_14
      have hf_14_x33_1 := k33_15.2.1
      have hf_15_x33_1 := k33_15.2.2.1
      have hf_21_x33_1 := k33_15.2.2.2.2
      have hnt_x33_1 := k33_15.2.2.2.1
      obtain ⟨a17, b18, m17, Wa17, Wr17, hf_17_x33_1, hf_18_x33_1, hm17, hm18, hv_a17, hz_x33_2, hW17, hW18, hx17⟩ := k33_16
      have hn_a17 := hv_a17.num fe_ok
      refine lv_aload_n S.x S.b d_Mpg_switching_33 rfl (lv_at hl 0 rfl) ?_
      obtain ⟨sk1, hRsk1, st2, sb3, hSsk1⟩ := oP_lit hP (k := 93) (tx := "}") (n := 1) (List.mem_of_getElem? (i := 38) rfl)
      refine va_ldcS S.x S.b S.own hRsk1 d_Mpg_switching_34 ?_
      refine px_calli (pr := []) (px_runV (As := [.ref sk1]) (rest := []) S (c_mp_is l D cs sk1 1 h r g tf ta pf_33 na_33 ma_33 wa_33 cf ca ef ea xf xa   (show 0 ≤ (pf_33 11).toInt from by omega) (show (pf_33 11).toInt < (tf 6).toInt from by omega) (show (tf 6).toInt ≤ 2049 from by omega) (show 1 ≤ 100 from by omega) htk _) hT (pr := []) (pcs := [wdP cs h r g tf ta pf_33 na_33 ma_33 wa_33 cf ca ef ea xf xa]) hw (oX_call (P := (fun A U H => (oP A g U H) ∧ (StS A sk1 1 U H))) (pr := []) (oG_and oG_P oG_Q) hw hA ⟨hP, ⟨_, _, hSsk1⟩⟩) (px_recv hT hw 0 0 rfl rfl rfl) m11_217 m11_214 m11_216 ms_8_14 m1_21 q_Mpg_is ⟨show 3 + 1 ≤ (8 * lv + 26) from by omega, show 8 + (2 + 11) + 120 ≤ (220 * lv + 1200) from by omega⟩ hl.1 rfl (Nat.le_of_ble_eq_true rfl) d_Mpg_switching_36 ⟨Nat.le_of_ble_eq_true rfl, Nat.le_of_ble_eq_true rfl⟩) hw hA (fun v5 p4 H locs hp4 hw => ?_)
      obtain ⟨rfl, e6, e7⟩ := hp4
      have e6 := z_rng e6
      have e7 : v5.toInt = 1 → (pf_33 11).toInt + 1 < (tf 6).toInt ∧ so ta (pf_33 11) = 5 := e7
      have hw : pw D A s.heap H locs [wdP cs h r g tf ta pf_33 na_33 ma_33 wa_33 cf ca ef ea xf xa] := hw
      have lv5 := Int32.le_toInt v5
      have uv5 := Int32.toInt_lt v5
      refine lv_if_ne (tgt := 173) S.x S.b d_Mpg_switching_39 (by decide) (fun c8 => ?_) (fun c8 => ?_)
      · have nc8 : ¬ v5.toInt = (0 : Int) := mt (i_eq (x := v5) (y := 0)).mpr c8
        refine lv_aload_n S.x S.b d_Mpg_switching_173 rfl (lv_at hl 0 rfl) ?_
        obtain ⟨sk9, hRsk9, st10, sb11, hSsk9⟩ := oP_lit hP (k := 93) (tx := "}") (n := 1) (List.mem_of_getElem? (i := 38) rfl)
        refine va_ldcS S.x S.b S.own hRsk9 d_Mpg_switching_174 ?_
        refine th_callv (ps0 := [wdP cs h r g tf ta pf na ma wa cf ca ef ea xf xa]) (pr := []) (pcs := [wdP cs h r g tf ta pf_33 na_33 ma_33 wa_33 cf ca ef ea xf xa]) (As := [.ref sk9]) (rest := []) (c_mp_closes l D cs sk9 1 h r g tf ta na_33 ma_33 wa_33 cf ca ef ea xf xa pf_33   (show 0 ≤ (pf_33 11).toInt from by omega) (show (pf_33 11).toInt < (tf 6).toInt from by omega) (show (tf 6).toInt ≤ 2049 from by omega) (show 1 ≤ (pf_33 12).toInt from by omega) (show (pf_33 12).toInt ≤ 60 from by omega) (show 1 ≤ 100 from by omega) hlf htk) S hT hw (oX_call (P := (fun A U H => (oN A U H) ∧ (oP A g U H) ∧ (StS A sk9 1 U H))) (pr := []) (oG_and oG_N (oG_and oG_P oG_Q)) hw hA ⟨hN, hP, ⟨_, _, hSsk9⟩⟩) (px_recv hT hw 0 0 rfl rfl rfl) m12_53 m12_50 m12_52 ms_9_14 m1_21 q_Mpg_closes ⟨show 8 + 1 ≤ (8 * lv + 26) from by omega, show 8 + (2 + 11) + 280 ≤ (220 * lv + 1200) from by omega⟩ hl.1 rfl (Nat.le_of_ble_eq_true rfl) d_Mpg_switching_176 ⟨Nat.le_of_ble_eq_true rfl, Nat.le_of_ble_eq_true rfl⟩ hne hlk hA hAe (fun o t h => Or.inr h) ?_ (fun p14 H locs hp14 hw => ?_)
        · exact fun p1 H1 locs1 hp hw => by obtain ⟨pq1, pq2, pq3, pq4, rfl, hq1, hq2⟩ := hp; exact ⟨_, ⟨pq1, pq2, pq3, pq4, rfl, hq1, hq2⟩, hw⟩
        obtain ⟨pf13, rfl, e16, e17, e18, e19, e20, e21, e22, e23⟩ := hp14
        have e16 : (pf13 11).toInt = (pf_33 11).toInt + 1 := e16
        have e17 : (pf13 11).toInt < (tf 6).toInt := e17
        have e18 : bp ta (pf_33 11) + 1 ≤ bp ta (pf13 11) := e18
        have e19 : (pf13 12).toInt = (pf_33 12).toInt - 1 := e19
        have e20 : (pf13 13).toInt = (pf_33 13).toInt := e20
        have e21 : (pf13 24).toInt = (pf_33 24).toInt := e21
        have e22 : (pf13 25).toInt = (pf_33 25).toInt := e22
        have e23 : (pf13 26).toInt = (pf_33 26).toInt := e23
        have hw : pw D A s.heap H locs [wdP cs h r g tf ta pf13 na_33 ma_33 wa_33 cf ca ef ea xf xa] := hw
        refine lv_aload_n S.x S.b d_Mpg_switching_179 rfl (lv_at hl 0 rfl) ?_
        refine lv_dup S.x S.b d_Mpg_switching_180 rfl ?_
        refine px_get S k_Mpg hT hw 0 0 12 (v := .int (pf13 12)) rfl rfl rfl (by decide) m9_236 d_Mpg_switching_181 ?_
        refine lv_iconst (v := 1) S.x S.b d_Mpg_switching_184 (by decide) ?_
        refine lv_isub S.x S.b d_Mpg_switching_185 ?_
        have lr24 := Int32.le_toInt (pf13 12)
        have ur24 := Int32.toInt_lt (pf13 12)
        refine lv_topi (fun z25 ez25 => ?_)
        have tz25 : z25.toInt = ((pf13 12).toInt - (1 : Int) + 2147483648) % 4294967296 - 2147483648 := by rw [ez25]; exact i_sub (pf13 12) 1
        have lz25 := Int32.le_toInt z25
        have uz25 := Int32.toInt_lt z25
        try replace tz25 : z25.toInt = (pf13 12).toInt - (1 : Int) := by omega
        refine px_put S k_Mpg hT hw 0 0 12 rfl rfl (by decide) m9_236 rfl rfl rfl (Nat.le_of_ble_eq_true rfl) d_Mpg_switching_186 (w' := wdP cs h r g tf ta (upd pf13 12 z25) na_33 ma_33 wa_33 cf ca ef ea xf xa) (ps' := [wdP cs h r g tf ta (upd pf13 12 z25) na_33 ma_33 wa_33 cf ca ef ea xf xa]) rfl rfl (fun H locs hw => ?_)
        refine lv_iload_n S.x S.b d_Mpg_switching_189 rfl (lv_at hl 1 rfl) ?_
        exact th_iret (v := x33_1) S hr rfl hlk hAe hw (⟨(upd pf13 12 z25), na_33, ma_33, wa_33, rfl, (show (pf 11).toInt + 1 ≤ (pf13 11).toInt from by omega), (show (pf13 11).toInt < (tf 6).toInt from by omega), (show (pf 13).toInt + 1 ≤ (pf13 13).toInt from by omega), (show (pf13 13).toInt - (pf 13).toInt ≤ (pf13 11).toInt - (pf 11).toInt from by omega), (show bp ta (pf 11) + 1 ≤ bp ta (pf13 11) from by omega), (show z25.toInt = (pf 12).toInt from by omega), (show (pf13 24).toInt = (pf 24).toInt from by omega), (show (pf13 25).toInt = (pf 25).toInt from by omega), (show (pf13 26).toInt = (pf 26).toInt from by omega), (show FrB (pf 13).toInt na ma na_33 ma_33 from hfb), (show FrW (pf 26).toInt wa wa_33 from hfw), (show VlS ta (tf 6).toInt na_33 ma_33 x33_1 (pf 13).toInt (pf13 13).toInt (3 * (bp ta (pf13 11) - bp ta (pf 11))) (200 - (pf 12).toInt) from (VlV.le (st_switch (hi := (pf13 13).toInt) (D := (198 - (pf 12).toInt)) (x := x33_2) (lo := x33_1.toInt + 1) ⟨by omega, hf_14_x33_1, hf_15_x33_1, ⟨by omega, by omega⟩, hf_21_x33_1⟩ hf_17_x33_1 (by omega) (VlV.le hv_a17 (by omega) (by omega) (Int.le_refl _) (by omega)) (by rw [hf_18_x33_1]; exact RzV.le hz_x33_2 (by omega) (by omega) (Int.le_refl _) (by omega)) (by omega)) (by omega) (by omega) (by omega) (by omega)))⟩) d_Mpg_switching_190
      · have nc8 : v5.toInt = (0 : Int) := (i_eq (x := v5) (y := 0)).mp c8
        refine lv_iconst (v := (-1)) S.x S.b d_Mpg_switching_42 (by decide) ?_
        refine lv_istore_n (lv' := [(3, .int (-1)), (0, .ref h), (1, .int x33_1), (2, .int x33_2)]) S.x S.b d_Mpg_switching_43 rfl hl (by decide) rfl (fun ls hl => ?_)
        refine lv_aload_n S.x S.b d_Mpg_switching_44 rfl (lv_at hl 1 rfl) ?_
        refine lv_bipush (v := 10) S.x S.b d_Mpg_switching_45 (by decide) ?_
        refine px_calli (pr := []) (px_runV (As := [.int 10]) (rest := []) S (c_mp_isKey l D cs h r g tf ta pf_33 na_33 ma_33 wa_33 cf ca ef ea xf xa 10  (show 0 ≤ (pf_33 11).toInt from by omega) (show (pf_33 11).toInt < (tf 6).toInt from by omega) (show (tf 6).toInt ≤ 2049 from by omega) htk _) hT (pr := []) (pcs := [wdP cs h r g tf ta pf_33 na_33 ma_33 wa_33 cf ca ef ea xf xa]) hw px_X.tt (px_recv hT hw 0 0 rfl rfl rfl) m11_201 m11_198 m11_200 ms_8_10 m1_21 q_Mpg_isKey ⟨show 0 + 1 ≤ (8 * lv + 26) from by omega, show 8 + (2 + 11) + 0 ≤ (220 * lv + 1200) from by omega⟩ hl.1 rfl (Nat.le_of_ble_eq_true rfl) d_Mpg_switching_47 ⟨Nat.le_of_ble_eq_true rfl, Nat.le_of_ble_eq_true rfl⟩) hw hA (fun v27 p26 H locs hp26 hw => ?_)
        obtain ⟨rfl, e28, e29⟩ := hp26
        have e28 := z_rng e28
        have e29 : v27.toInt = 1 → (pf_33 11).toInt + 1 < (tf 6).toInt ∧ so ta (pf_33 11) = 2 ∧ wh ta (pf_33 11) = (10 : Int) := e29
        have hw : pw D A s.heap H locs [wdP cs h r g tf ta pf_33 na_33 ma_33 wa_33 cf ca ef ea xf xa] := hw
        have lv27 := Int32.le_toInt v27
        have uv27 := Int32.toInt_lt v27
        refine lv_if_eq (tgt := 93) S.x S.b d_Mpg_switching_50 (by decide) (fun c30 => ?_) (fun c30 => ?_)
        · have nc30 : v27.toInt = (0 : Int) := (i_eq (x := v27) (y := 0)).mp c30
          refine lv_aload_n S.x S.b d_Mpg_switching_93 rfl (lv_at hl 1 rfl) ?_
          refine lv_bipush (v := 11) S.x S.b d_Mpg_switching_94 (by decide) ?_
          refine px_calli (pr := []) (px_runV (As := [.int 11]) (rest := []) S (c_mp_isKey l D cs h r g tf ta pf_33 na_33 ma_33 wa_33 cf ca ef ea xf xa 11  (show 0 ≤ (pf_33 11).toInt from by omega) (show (pf_33 11).toInt < (tf 6).toInt from by omega) (show (tf 6).toInt ≤ 2049 from by omega) htk _) hT (pr := []) (pcs := [wdP cs h r g tf ta pf_33 na_33 ma_33 wa_33 cf ca ef ea xf xa]) hw px_X.tt (px_recv hT hw 0 0 rfl rfl rfl) m11_201 m11_198 m11_200 ms_8_10 m1_21 q_Mpg_isKey ⟨show 0 + 1 ≤ (8 * lv + 26) from by omega, show 8 + (2 + 11) + 0 ≤ (220 * lv + 1200) from by omega⟩ hl.1 rfl (Nat.le_of_ble_eq_true rfl) d_Mpg_switching_96 ⟨Nat.le_of_ble_eq_true rfl, Nat.le_of_ble_eq_true rfl⟩) hw hA (fun v32 p31 H locs hp31 hw => ?_)
          obtain ⟨rfl, e33, e34⟩ := hp31
          have e33 := z_rng e33
          have e34 : v32.toInt = 1 → (pf_33 11).toInt + 1 < (tf 6).toInt ∧ so ta (pf_33 11) = 2 ∧ wh ta (pf_33 11) = (11 : Int) := e34
          have hw : pw D A s.heap H locs [wdP cs h r g tf ta pf_33 na_33 ma_33 wa_33 cf ca ef ea xf xa] := hw
          have lv32 := Int32.le_toInt v32
          have uv32 := Int32.toInt_lt v32
          refine lv_if_eq (tgt := 132) S.x S.b d_Mpg_switching_99 (by decide) (fun c35 => ?_) (fun c35 => ?_)
          · have nc35 : v32.toInt = (0 : Int) := (i_eq (x := v32) (y := 0)).mp c35
            refine lv_aload_n S.x S.b d_Mpg_switching_132 rfl (lv_at hl 1 rfl) ?_
            refine lv_iload_n S.x S.b d_Mpg_switching_133 rfl (lv_at hl 3 rfl) ?_
            refine lv_if_lt (tgt := 141) S.x S.b d_Mpg_switching_134 (by decide) (fun c36 => ?_) (fun c36 => ?_)
            · have nc36 : x33_2.toInt < (0 : Int) := (i_lt (x := x33_2) (y := 0)).mp c36
              refine lv_iconst (v := 0) S.x S.b d_Mpg_switching_141 (by decide) ?_
              refine th_callv (ps0 := [wdP cs h r g tf ta pf na ma wa cf ca ef ea xf xa]) (pr := [wdP cs h r g tf ta pf_33 na_33 ma_33 wa_33 cf ca ef ea xf xa]) (pcs := []) (As := [.int 0]) (rest := []) (c_mp_need l hlf D cs h 0) S hT hw (oX_call (P := (fun A U H => (oN A U H))) (pr := [wdP cs h r g tf ta pf_33 na_33 ma_33 wa_33 cf ca ef ea xf xa]) oG_N hw hA hN) (px_recv hT hw 0 0 rfl rfl rfl) m11_233 m11_230 m11_232 ms_9_0 m1_21 q_Mpg_need ⟨show 6 + 1 ≤ (8 * lv + 26) from by omega, show 8 + (2 + 11) + 100 ≤ (220 * lv + 1200) from by omega⟩ hl.1 rfl (Nat.le_of_ble_eq_true rfl) d_Mpg_switching_142 ⟨Nat.le_of_ble_eq_true rfl, Nat.le_of_ble_eq_true rfl⟩ hne hlk hA hAe (fun o t h => Or.inr h) ?_ (fun p37 H locs hp37 hw => ?_)
              · exact fun p1 H1 locs1 hp hw => by subst hp; exact ⟨_, ⟨pf_33, na_33, ma_33, wa_33, rfl, by omega, by omega⟩, hw.sub [0] rfl rfl⟩
              obtain ⟨rfl, hndp37⟩ := hp37
              have hndp37 : ¬ (0 : Int) = 0 := hndp37
              have hw : pw D A s.heap H locs [wdP cs h r g tf ta pf_33 na_33 ma_33 wa_33 cf ca ef ea xf xa] := hw
              refine lv_aload_n S.x S.b d_Mpg_switching_145 rfl (lv_at hl 1 rfl) ?_
              refine th_calli (ps0 := [wdP cs h r g tf ta pf na ma wa cf ca ef ea xf xa]) (pr := []) (pcs := [wdP cs h r g tf ta pf_33 na_33 ma_33 wa_33 cf ca ef ea xf xa]) (As := []) (rest := []) ((hLT.go (by omega)) h r g tf ta cf ca ef ea xf xa pf_33 na_33 ma_33 wa_33   (show 0 ≤ (pf_33 11).toInt from by omega) (show (pf_33 11).toInt < (tf 6).toInt from by omega) (show (tf 6).toInt ≤ 2049 from by omega) (show 0 ≤ (pf_33 12).toInt from by omega) (show (pf_33 12).toInt ≤ 60 from by omega) (show 0 ≤ (pf_33 13).toInt from by omega) (show (pf_33 13).toInt ≤ (pf_33 11).toInt + 10 from by omega) (show 0 ≤ (pf_33 26).toInt from by omega) (show (pf_33 26).toInt ≤ (pf_33 12).toInt from by omega) (show 61 ≤ (pf_33 12).toInt + ((lv - 1 : Nat) : Int) from by omega) (show lv - 1 ≤ 61 from by omega) hlf htk) S hT hw (oX_call (P := (fun A U H => (oN A U H) ∧ (oP A g U H))) (pr := []) (oG_and oG_N oG_P) hw hA ⟨hN, hP⟩) (px_recv hT hw 0 0 rfl rfl rfl) m12_101 m12_98 m12_100 ms_10_10 m1_21 q_Mpg_statement ⟨show (8 * (lv - 1) + 28) + 1 ≤ (8 * lv + 26) from by omega, show 8 + (2 + 11) + (220 * (lv - 1) + 1280) ≤ (220 * lv + 1200) from by omega⟩ hl.1 rfl (Nat.le_of_ble_eq_true rfl) d_Mpg_switching_146 ⟨Nat.le_of_ble_eq_true rfl, Nat.le_of_ble_eq_true rfl⟩ hne hlk hA hAe (fun o t h => Or.inr h) ?_ (fun v48 p47 H locs hp47 hw => ?_)
              · exact fun p1 H1 locs1 hp hw => by obtain ⟨pq1, pq2, pq3, pq4, rfl, hq1, hq2⟩ := hp; exact ⟨_, ⟨pq1, pq2, pq3, pq4, rfl, hq1, hq2⟩, hw⟩
              obtain ⟨pf43, na44, ma45, wa46, rfl, e49, e50, e51, e52, e53, e54, e55, e56, e57, e58, e59, e60⟩ := hp47
              have e49 : (pf_33 11).toInt + 1 ≤ (pf43 11).toInt := e49
              have e50 : (pf43 11).toInt < (tf 6).toInt := e50
              have e51 : (pf_33 13).toInt + 1 ≤ (pf43 13).toInt := e51
              have e52 : (pf43 13).toInt - (pf_33 13).toInt ≤ (pf43 11).toInt - (pf_33 11).toInt := e52
              have e53 : bp ta (pf_33 11) + 1 ≤ bp ta (pf43 11) := e53
              have e54 : (pf43 12).toInt = (pf_33 12).toInt := e54
              have e55 : (pf43 24).toInt = (pf_33 24).toInt := e55
              have e56 : (pf43 25).toInt = (pf_33 25).toInt := e56
              have e57 : (pf43 26).toInt = (pf_33 26).toInt := e57
              have e58 : FrB (pf_33 13).toInt na_33 ma_33 na44 ma45 := e58
              have hf_14_x33_1 := (fb_n e58 (by omega) (by omega)).trans hf_14_x33_1
              have hf_15_x33_1 := (fb_n e58 (by omega) (by omega)).trans hf_15_x33_1
              have hf_21_x33_1 := (fb_n e58 (by omega) (by omega)).trans hf_21_x33_1
              have hf_17_x33_1 := (fb_n e58 (by omega) (by omega)).trans hf_17_x33_1
              have hf_18_x33_1 := (fb_m e58 (by omega) (by omega)).trans hf_18_x33_1
              have hv_a17 := hv_a17.ag fe_ok (FrB.ag e58 (by omega))
              have hz_x33_2 := hz_x33_2.ag fs_ok (FrB.ag e58 (by omega))
              have hfb := hfb.tr e58 (by omega)
              have e59 : FrW (pf_33 26).toInt wa_33 wa46 := e59
              have hfw := hfw.tr e59 (by omega)
              have e60 : VlS ta (tf 6).toInt na44 ma45 v48 (pf_33 13).toInt (pf43 13).toInt (3 * (bp ta (pf43 11) - bp ta (pf_33 11))) (200 - (pf_33 12).toInt) := e60
              have hv_v48 := e60
              have hn_hv_v48 := hv_v48.num fs_ok
              have hw : pw D A s.heap H locs [wdP cs h r g tf ta pf43 na44 ma45 wa46 cf ca ef ea xf xa] := hw
              have lv48 := Int32.le_toInt v48
              have uv48 := Int32.toInt_lt v48
              refine lv_istore_n (lv' := [(3, .int v48), (0, .ref h), (1, .int x33_1), (2, .int x33_2)]) S.x S.b d_Mpg_switching_149 rfl hl (by decide) rfl (fun ls hl => ?_)
              refine lv_aload_n S.x S.b d_Mpg_switching_150 rfl (lv_at hl 1 rfl) ?_
              refine px_get S k_Mpg hT hw 0 0 18 (v := .ref (r 18)) rfl rfl rfl (by decide) m10_3 d_Mpg_switching_151 ?_
              refine lv_iload_n S.x S.b d_Mpg_switching_154 rfl (lv_at hl 2 rfl) ?_
              refine lv_aload_n S.x S.b d_Mpg_switching_155 rfl (lv_at hl 1 rfl) ?_
              refine lv_aload_n S.x S.b d_Mpg_switching_156 rfl (lv_at hl 1 rfl) ?_
              refine px_get S k_Mpg hT hw 0 0 18 (v := .ref (r 18)) rfl rfl rfl (by decide) m10_3 d_Mpg_switching_157 ?_
              refine lv_iload_n S.x S.b d_Mpg_switching_160 rfl (lv_at hl 2 rfl) ?_
              refine px_iald S hT hw 0 14 (n := 2100) (f := (ma45 18)) rfl gp_18 (x := x33_1) (vp_in_iff.mpr (by constructor <;> omega)) d_Mpg_switching_161 ?_
              refine lv_topi (fun z61 ez61 => ?_)
              have lz61 := Int32.le_toInt z61
              have uz61 := Int32.toInt_lt z61
              have hsz61 : b18 = z61 := (ez61.trans hf_18_x33_1).symm; subst hsz61
              refine lv_iload_n S.x S.b d_Mpg_switching_162 rfl (lv_at hl 3 rfl) ?_
              refine lv_iload_n S.x S.b d_Mpg_switching_163 rfl (lv_at hl 0 rfl) ?_
              refine px_calli (pr := []) (px_runV (As := [.int b18, .int x33_2, .int v48]) (rest := [.int x33_1, .ref (r 18)]) S (c_mp_hang l D cs h r g tf ta pf43 ma45 wa46 cf ca ef ea xf xa na44 b18 x33_2 v48  (show x33_2.toInt < 2100 from by omega) htk _) hT (pr := []) (pcs := [wdP cs h r g tf ta pf43 na44 ma45 wa46 cf ca ef ea xf xa]) hw px_X.tt (px_recv hT hw 0 0 rfl rfl rfl) m12_77 m12_74 m12_76 ms_10_4 m1_21 q_Mpg_hang ⟨show 0 + 1 ≤ (8 * lv + 26) from by omega, show 8 + (4 + 11) + 0 ≤ (220 * lv + 1200) from by omega⟩ hl.1 rfl (Nat.le_of_ble_eq_true rfl) d_Mpg_switching_164 ⟨Nat.le_of_ble_eq_true rfl, Nat.le_of_ble_eq_true rfl⟩) hw hA (fun v65 p64 H locs hp64 hw => ?_)
              obtain ⟨na63, rfl, e66⟩ := hp64
              have e66 : Hg na44 na63 b18 x33_2 v48 v65 := e66
              have hf_14_x33_1 := (Hg.fld e66 (by omega) (by omega)).trans hf_14_x33_1
              have hf_15_x33_1 := (Hg.fld e66 (by omega) (by omega)).trans hf_15_x33_1
              have hf_21_x33_1 := (Hg.fld e66 (by omega) (by omega)).trans hf_21_x33_1
              have hf_17_x33_1 := (Hg.fld e66 (by omega) (by omega)).trans hf_17_x33_1
              have hrw_v48 := Hg.row e66 fs_ok hz_x33_2 (VlV.le hv_v48 (by omega) (Int.le_refl _) (Int.le_refl _) (by omega)) (by omega) (by omega)
              have hn_hrw_v48 := hrw_v48.num
              have hv_a17 := hv_a17.ag fe_ok (Hg.ag e66 (by omega))
              have hfb := Hg.fb e66 hfb (by omega)
              have hw : pw D A s.heap H locs [wdP cs h r g tf ta pf43 na63 ma45 wa46 cf ca ef ea xf xa] := hw
              have lv65 := Int32.le_toInt v65
              have uv65 := Int32.toInt_lt v65
              refine px_iast S hT hw 0 14 (n := 2100) (f := (ma45 18)) (x := x33_1) (y := v65) rfl gp_18 (vp_in_iff.mpr (by constructor <;> omega)) d_Mpg_switching_167 (w' := wdP cs h r g tf ta pf43 na63 (va_up ma45 18 (upd (ma45 18) x33_1.toNatClampNeg v65)) wa46 cf ca ef ea xf xa) (ps' := [wdP cs h r g tf ta pf43 na63 (va_up ma45 18 (upd (ma45 18) x33_1.toNatClampNeg v65)) wa46 cf ca ef ea xf xa]) sp_18 rfl (fun H locs hw => ?_)
              obtain ⟨ma67, hu_ma67⟩ : ∃ y : Nat → Nat → Int32, y = va_up ma45 18 (upd (ma45 18) x33_1.toNatClampNeg v65) := ⟨_, rfl⟩
              have hw : pw D A s.heap _ _ [wdP cs h r g tf ta pf43 na63 ma67 wa46 cf ca ef ea xf xa] := (by rw [hu_ma67]; exact hw)
              have hv_a17 := hv_a17.ag fe_ok (ag_m hu_ma67 (by omega) (by omega))
              have hrw_v48 := hrw_v48.ag fs_ok (ag_m hu_ma67 (by omega) (by omega))
              have hf_18_x33_1 : ma67 18 x33_1.toNatClampNeg = v65 := (by rw [hu_ma67, va_up_s, pk_us])
              have hfb : FrB (pf 13).toInt na ma na63 ma67 := (by rw [hu_ma67]; exact FrB.um hfb (by omega) (by omega))
              refine lv_iload_n S.x S.b d_Mpg_switching_168 rfl (lv_at hl 0 rfl) ?_
              refine lv_istore_n (lv' := [(2, .int v48), (3, .int v48), (0, .ref h), (1, .int x33_1)]) S.x S.b d_Mpg_switching_169 rfl hl (by decide) rfl (fun ls hl => ?_)
              refine lv_goto (tgt := 33) S.x S.b d_Mpg_switching_170 (by decide) ?_
              exact ih33 pf43 na63 ma67 wa46 x33_1 v48 _ _ ls (show (pf43 24).toInt = (pf 24).toInt from by omega) (show (pf43 25).toInt = (pf 25).toInt from by omega) (show (pf43 26).toInt = (pf 26).toInt from by omega) (show (pf43 12).toInt = (pf 12).toInt + 2 from by omega) (show (pf43 12).toInt ≤ 60 from by omega) (show (pf 11).toInt + 2 ≤ (pf43 11).toInt from by omega) (show (pf43 11).toInt < (tf 6).toInt from by omega) (show x33_1.toInt = (pf 13).toInt from by omega) (show x33_1.toInt < (pf43 13).toInt from by omega) (show (pf43 13).toInt - (pf 13).toInt ≤ (pf43 11).toInt - (pf 11).toInt from by omega) (show bp ta (pf 11) + 2 ≤ bp ta (pf43 11) from by omega) (show v48.toInt = -1 ∨ x33_1.toInt + 1 ≤ v48.toInt from by omega) (show v48.toInt < (pf43 13).toInt from by omega) (show FrB (pf 13).toInt na ma na63 ma67 from hfb) (show FrW (pf 26).toInt wa wa46 from hfw) (show NdF (tf 6).toInt na63 x33_1 28 (pf 11) from ⟨by omega, hf_14_x33_1, hf_15_x33_1, ⟨by omega, by omega⟩, hf_21_x33_1⟩) (show SwV ta (tf 6).toInt na63 ma67 x33_1 v48 (pf43 13).toInt (3 * (bp ta (pf43 11) - bp ta (pf 11)) - 3) (198 - (pf 12).toInt) from ⟨_, _, _, _, _, hf_17_x33_1, hf_18_x33_1, by omega, by omega, (VlV.le hv_a17 (by omega) (Int.le_refl _) (Int.le_refl _) (by omega)), (Or.inr (RwV.le hrw_v48 (by omega) (by omega) (Int.le_refl _) (by omega))), by omega, by omega, by omega⟩) (show (tf 6).toInt - (pf43 11).toInt < (n_33 : Int) from by omega) hw (lv_sub hl [2, 3, 0] rfl)
            · have nc36 : ¬ x33_2.toInt < (0 : Int) := mt (i_lt (x := x33_2) (y := 0)).mpr c36
              refine lv_iconst (v := 1) S.x S.b d_Mpg_switching_137 (by decide) ?_
              refine lv_goto (tgt := 142) S.x S.b d_Mpg_switching_138 (by decide) ?_
              refine th_callv (ps0 := [wdP cs h r g tf ta pf na ma wa cf ca ef ea xf xa]) (pr := [wdP cs h r g tf ta pf_33 na_33 ma_33 wa_33 cf ca ef ea xf xa]) (pcs := []) (As := [.int 1]) (rest := []) (c_mp_need l hlf D cs h 1) S hT hw (oX_call (P := (fun A U H => (oN A U H))) (pr := [wdP cs h r g tf ta pf_33 na_33 ma_33 wa_33 cf ca ef ea xf xa]) oG_N hw hA hN) (px_recv hT hw 0 0 rfl rfl rfl) m11_233 m11_230 m11_232 ms_9_0 m1_21 q_Mpg_need ⟨show 6 + 1 ≤ (8 * lv + 26) from by omega, show 8 + (2 + 11) + 100 ≤ (220 * lv + 1200) from by omega⟩ hl.1 rfl (Nat.le_of_ble_eq_true rfl) d_Mpg_switching_142 ⟨Nat.le_of_ble_eq_true rfl, Nat.le_of_ble_eq_true rfl⟩ hne hlk hA hAe (fun o t h => Or.inr h) ?_ (fun p68 H locs hp68 hw => ?_)
              · exact fun p1 H1 locs1 hp hw => by subst hp; exact ⟨_, ⟨pf_33, na_33, ma_33, wa_33, rfl, by omega, by omega⟩, hw.sub [0] rfl rfl⟩
              obtain ⟨rfl, hndp68⟩ := hp68
              have hndp68 : ¬ (1 : Int) = 0 := hndp68
              have hw : pw D A s.heap H locs [wdP cs h r g tf ta pf_33 na_33 ma_33 wa_33 cf ca ef ea xf xa] := hw
              refine lv_aload_n S.x S.b d_Mpg_switching_145 rfl (lv_at hl 1 rfl) ?_
              refine th_calli (ps0 := [wdP cs h r g tf ta pf na ma wa cf ca ef ea xf xa]) (pr := []) (pcs := [wdP cs h r g tf ta pf_33 na_33 ma_33 wa_33 cf ca ef ea xf xa]) (As := []) (rest := []) ((hLT.go (by omega)) h r g tf ta cf ca ef ea xf xa pf_33 na_33 ma_33 wa_33   (show 0 ≤ (pf_33 11).toInt from by omega) (show (pf_33 11).toInt < (tf 6).toInt from by omega) (show (tf 6).toInt ≤ 2049 from by omega) (show 0 ≤ (pf_33 12).toInt from by omega) (show (pf_33 12).toInt ≤ 60 from by omega) (show 0 ≤ (pf_33 13).toInt from by omega) (show (pf_33 13).toInt ≤ (pf_33 11).toInt + 10 from by omega) (show 0 ≤ (pf_33 26).toInt from by omega) (show (pf_33 26).toInt ≤ (pf_33 12).toInt from by omega) (show 61 ≤ (pf_33 12).toInt + ((lv - 1 : Nat) : Int) from by omega) (show lv - 1 ≤ 61 from by omega) hlf htk) S hT hw (oX_call (P := (fun A U H => (oN A U H) ∧ (oP A g U H))) (pr := []) (oG_and oG_N oG_P) hw hA ⟨hN, hP⟩) (px_recv hT hw 0 0 rfl rfl rfl) m12_101 m12_98 m12_100 ms_10_10 m1_21 q_Mpg_statement ⟨show (8 * (lv - 1) + 28) + 1 ≤ (8 * lv + 26) from by omega, show 8 + (2 + 11) + (220 * (lv - 1) + 1280) ≤ (220 * lv + 1200) from by omega⟩ hl.1 rfl (Nat.le_of_ble_eq_true rfl) d_Mpg_switching_146 ⟨Nat.le_of_ble_eq_true rfl, Nat.le_of_ble_eq_true rfl⟩ hne hlk hA hAe (fun o t h => Or.inr h) ?_ (fun v79 p78 H locs hp78 hw => ?_)
              · exact fun p1 H1 locs1 hp hw => by obtain ⟨pq1, pq2, pq3, pq4, rfl, hq1, hq2⟩ := hp; exact ⟨_, ⟨pq1, pq2, pq3, pq4, rfl, hq1, hq2⟩, hw⟩
              obtain ⟨pf74, na75, ma76, wa77, rfl, e80, e81, e82, e83, e84, e85, e86, e87, e88, e89, e90, e91⟩ := hp78
              have e80 : (pf_33 11).toInt + 1 ≤ (pf74 11).toInt := e80
              have e81 : (pf74 11).toInt < (tf 6).toInt := e81
              have e82 : (pf_33 13).toInt + 1 ≤ (pf74 13).toInt := e82
              have e83 : (pf74 13).toInt - (pf_33 13).toInt ≤ (pf74 11).toInt - (pf_33 11).toInt := e83
              have e84 : bp ta (pf_33 11) + 1 ≤ bp ta (pf74 11) := e84
              have e85 : (pf74 12).toInt = (pf_33 12).toInt := e85
              have e86 : (pf74 24).toInt = (pf_33 24).toInt := e86
              have e87 : (pf74 25).toInt = (pf_33 25).toInt := e87
              have e88 : (pf74 26).toInt = (pf_33 26).toInt := e88
              have e89 : FrB (pf_33 13).toInt na_33 ma_33 na75 ma76 := e89
              have hf_14_x33_1 := (fb_n e89 (by omega) (by omega)).trans hf_14_x33_1
              have hf_15_x33_1 := (fb_n e89 (by omega) (by omega)).trans hf_15_x33_1
              have hf_21_x33_1 := (fb_n e89 (by omega) (by omega)).trans hf_21_x33_1
              have hf_17_x33_1 := (fb_n e89 (by omega) (by omega)).trans hf_17_x33_1
              have hf_18_x33_1 := (fb_m e89 (by omega) (by omega)).trans hf_18_x33_1
              have hv_a17 := hv_a17.ag fe_ok (FrB.ag e89 (by omega))
              have hz_x33_2 := hz_x33_2.ag fs_ok (FrB.ag e89 (by omega))
              have hfb := hfb.tr e89 (by omega)
              have e90 : FrW (pf_33 26).toInt wa_33 wa77 := e90
              have hfw := hfw.tr e90 (by omega)
              have e91 : VlS ta (tf 6).toInt na75 ma76 v79 (pf_33 13).toInt (pf74 13).toInt (3 * (bp ta (pf74 11) - bp ta (pf_33 11))) (200 - (pf_33 12).toInt) := e91
              have hv_v79 := e91
              have hn_hv_v79 := hv_v79.num fs_ok
              have hw : pw D A s.heap H locs [wdP cs h r g tf ta pf74 na75 ma76 wa77 cf ca ef ea xf xa] := hw
              have lv79 := Int32.le_toInt v79
              have uv79 := Int32.toInt_lt v79
              refine lv_istore_n (lv' := [(3, .int v79), (0, .ref h), (1, .int x33_1), (2, .int x33_2)]) S.x S.b d_Mpg_switching_149 rfl hl (by decide) rfl (fun ls hl => ?_)
              refine lv_aload_n S.x S.b d_Mpg_switching_150 rfl (lv_at hl 1 rfl) ?_
              refine px_get S k_Mpg hT hw 0 0 18 (v := .ref (r 18)) rfl rfl rfl (by decide) m10_3 d_Mpg_switching_151 ?_
              refine lv_iload_n S.x S.b d_Mpg_switching_154 rfl (lv_at hl 2 rfl) ?_
              refine lv_aload_n S.x S.b d_Mpg_switching_155 rfl (lv_at hl 1 rfl) ?_
              refine lv_aload_n S.x S.b d_Mpg_switching_156 rfl (lv_at hl 1 rfl) ?_
              refine px_get S k_Mpg hT hw 0 0 18 (v := .ref (r 18)) rfl rfl rfl (by decide) m10_3 d_Mpg_switching_157 ?_
              refine lv_iload_n S.x S.b d_Mpg_switching_160 rfl (lv_at hl 2 rfl) ?_
              refine px_iald S hT hw 0 14 (n := 2100) (f := (ma76 18)) rfl gp_18 (x := x33_1) (vp_in_iff.mpr (by constructor <;> omega)) d_Mpg_switching_161 ?_
              refine lv_topi (fun z92 ez92 => ?_)
              have lz92 := Int32.le_toInt z92
              have uz92 := Int32.toInt_lt z92
              have hsz92 : b18 = z92 := (ez92.trans hf_18_x33_1).symm; subst hsz92
              refine lv_iload_n S.x S.b d_Mpg_switching_162 rfl (lv_at hl 3 rfl) ?_
              refine lv_iload_n S.x S.b d_Mpg_switching_163 rfl (lv_at hl 0 rfl) ?_
              refine px_calli (pr := []) (px_runV (As := [.int b18, .int x33_2, .int v79]) (rest := [.int x33_1, .ref (r 18)]) S (c_mp_hang l D cs h r g tf ta pf74 ma76 wa77 cf ca ef ea xf xa na75 b18 x33_2 v79  (show x33_2.toInt < 2100 from by omega) htk _) hT (pr := []) (pcs := [wdP cs h r g tf ta pf74 na75 ma76 wa77 cf ca ef ea xf xa]) hw px_X.tt (px_recv hT hw 0 0 rfl rfl rfl) m12_77 m12_74 m12_76 ms_10_4 m1_21 q_Mpg_hang ⟨show 0 + 1 ≤ (8 * lv + 26) from by omega, show 8 + (4 + 11) + 0 ≤ (220 * lv + 1200) from by omega⟩ hl.1 rfl (Nat.le_of_ble_eq_true rfl) d_Mpg_switching_164 ⟨Nat.le_of_ble_eq_true rfl, Nat.le_of_ble_eq_true rfl⟩) hw hA (fun v96 p95 H locs hp95 hw => ?_)
              obtain ⟨na94, rfl, e97⟩ := hp95
              have e97 : Hg na75 na94 b18 x33_2 v79 v96 := e97
              have hf_14_x33_1 := (Hg.fld e97 (by omega) (by omega)).trans hf_14_x33_1
              have hf_15_x33_1 := (Hg.fld e97 (by omega) (by omega)).trans hf_15_x33_1
              have hf_21_x33_1 := (Hg.fld e97 (by omega) (by omega)).trans hf_21_x33_1
              have hf_17_x33_1 := (Hg.fld e97 (by omega) (by omega)).trans hf_17_x33_1
              have hrw_v79 := Hg.row e97 fs_ok hz_x33_2 (VlV.le hv_v79 (by omega) (Int.le_refl _) (Int.le_refl _) (by omega)) (by omega) (by omega)
              have hn_hrw_v79 := hrw_v79.num
              have hv_a17 := hv_a17.ag fe_ok (Hg.ag e97 (by omega))
              have hfb := Hg.fb e97 hfb (by omega)
              have hw : pw D A s.heap H locs [wdP cs h r g tf ta pf74 na94 ma76 wa77 cf ca ef ea xf xa] := hw
              have lv96 := Int32.le_toInt v96
              have uv96 := Int32.toInt_lt v96
              refine px_iast S hT hw 0 14 (n := 2100) (f := (ma76 18)) (x := x33_1) (y := v96) rfl gp_18 (vp_in_iff.mpr (by constructor <;> omega)) d_Mpg_switching_167 (w' := wdP cs h r g tf ta pf74 na94 (va_up ma76 18 (upd (ma76 18) x33_1.toNatClampNeg v96)) wa77 cf ca ef ea xf xa) (ps' := [wdP cs h r g tf ta pf74 na94 (va_up ma76 18 (upd (ma76 18) x33_1.toNatClampNeg v96)) wa77 cf ca ef ea xf xa]) sp_18 rfl (fun H locs hw => ?_)
              obtain ⟨ma98, hu_ma98⟩ : ∃ y : Nat → Nat → Int32, y = va_up ma76 18 (upd (ma76 18) x33_1.toNatClampNeg v96) := ⟨_, rfl⟩
              have hw : pw D A s.heap _ _ [wdP cs h r g tf ta pf74 na94 ma98 wa77 cf ca ef ea xf xa] := (by rw [hu_ma98]; exact hw)
              have hv_a17 := hv_a17.ag fe_ok (ag_m hu_ma98 (by omega) (by omega))
              have hrw_v79 := hrw_v79.ag fs_ok (ag_m hu_ma98 (by omega) (by omega))
              have hf_18_x33_1 : ma98 18 x33_1.toNatClampNeg = v96 := (by rw [hu_ma98, va_up_s, pk_us])
              have hfb : FrB (pf 13).toInt na ma na94 ma98 := (by rw [hu_ma98]; exact FrB.um hfb (by omega) (by omega))
              refine lv_iload_n S.x S.b d_Mpg_switching_168 rfl (lv_at hl 0 rfl) ?_
              refine lv_istore_n (lv' := [(2, .int v79), (3, .int v79), (0, .ref h), (1, .int x33_1)]) S.x S.b d_Mpg_switching_169 rfl hl (by decide) rfl (fun ls hl => ?_)
              refine lv_goto (tgt := 33) S.x S.b d_Mpg_switching_170 (by decide) ?_
              exact ih33 pf74 na94 ma98 wa77 x33_1 v79 _ _ ls (show (pf74 24).toInt = (pf 24).toInt from by omega) (show (pf74 25).toInt = (pf 25).toInt from by omega) (show (pf74 26).toInt = (pf 26).toInt from by omega) (show (pf74 12).toInt = (pf 12).toInt + 2 from by omega) (show (pf74 12).toInt ≤ 60 from by omega) (show (pf 11).toInt + 2 ≤ (pf74 11).toInt from by omega) (show (pf74 11).toInt < (tf 6).toInt from by omega) (show x33_1.toInt = (pf 13).toInt from by omega) (show x33_1.toInt < (pf74 13).toInt from by omega) (show (pf74 13).toInt - (pf 13).toInt ≤ (pf74 11).toInt - (pf 11).toInt from by omega) (show bp ta (pf 11) + 2 ≤ bp ta (pf74 11) from by omega) (show v79.toInt = -1 ∨ x33_1.toInt + 1 ≤ v79.toInt from by omega) (show v79.toInt < (pf74 13).toInt from by omega) (show FrB (pf 13).toInt na ma na94 ma98 from hfb) (show FrW (pf 26).toInt wa wa77 from hfw) (show NdF (tf 6).toInt na94 x33_1 28 (pf 11) from ⟨by omega, hf_14_x33_1, hf_15_x33_1, ⟨by omega, by omega⟩, hf_21_x33_1⟩) (show SwV ta (tf 6).toInt na94 ma98 x33_1 v79 (pf74 13).toInt (3 * (bp ta (pf74 11) - bp ta (pf 11)) - 3) (198 - (pf 12).toInt) from ⟨_, _, _, _, _, hf_17_x33_1, hf_18_x33_1, by omega, by omega, (VlV.le hv_a17 (by omega) (Int.le_refl _) (Int.le_refl _) (by omega)), (Or.inr (RwV.le hrw_v79 (by omega) (by omega) (Int.le_refl _) (by omega))), by omega, by omega, by omega⟩) (show (tf 6).toInt - (pf74 11).toInt < (n_33 : Int) from by omega) hw (lv_sub hl [2, 3, 0] rfl)
          · have nc35 : ¬ v32.toInt = (0 : Int) := mt (i_eq (x := v32) (y := 0)).mpr c35
            refine lv_aload_n S.x S.b d_Mpg_switching_102 rfl (lv_at hl 1 rfl) ?_
            refine lv_bipush (v := 30) S.x S.b d_Mpg_switching_103 (by decide) ?_
            refine lv_aload_n S.x S.b d_Mpg_switching_105 rfl (lv_at hl 1 rfl) ?_
            refine px_get S k_Mpg hT hw 0 0 11 (v := .int (pf_33 11)) rfl rfl rfl (by decide) m9_235 d_Mpg_switching_106 ?_
            refine px_calli (pr := []) (px_runV (As := [.int 30, .int (pf_33 11)]) (rest := []) S (c_mp_make l D cs h r g tf ta wa_33 cf ca ef ea xf xa pf_33 na_33 ma_33 30 (pf_33 11)  (show 0 ≤ (pf_33 13).toInt from by omega) (show (pf_33 13).toInt < 2100 from by omega) _) hT (pr := []) (pcs := [wdP cs h r g tf ta pf_33 na_33 ma_33 wa_33 cf ca ef ea xf xa]) hw px_X.tt (px_recv hT hw 0 0 rfl rfl rfl) m11_209 m11_206 m11_208 ms_8_12 m1_21 q_Mpg_make ⟨show 0 + 1 ≤ (8 * lv + 26) from by omega, show 8 + (3 + 11) + 0 ≤ (220 * lv + 1200) from by omega⟩ hl.1 rfl (Nat.le_of_ble_eq_true rfl) d_Mpg_switching_109 ⟨Nat.le_of_ble_eq_true rfl, Nat.le_of_ble_eq_true rfl⟩) hw hA (fun v106 p105 H locs hp105 hw => ?_)
            obtain ⟨pf102, na103, ma104, rfl, e107, e108, e109, e110, e111, e112, e113, e114⟩ := hp105
            have e107 : v106.toInt = (pf_33 13).toInt := e107
            have e108 : (pf102 13).toInt = (pf_33 13).toInt + 1 := e108
            have e109 : (pf102 11).toInt = (pf_33 11).toInt := e109
            have e110 : (pf102 12).toInt = (pf_33 12).toInt := e110
            have e111 : (pf102 24).toInt = (pf_33 24).toInt := e111
            have e112 : (pf102 25).toInt = (pf_33 25).toInt := e112
            have e113 : (pf102 26).toInt = (pf_33 26).toInt := e113
            have e114 : MkN na_33 ma_33 na103 ma104 v106 (30 : Int32) (pf_33 11) := e114
            obtain ⟨qb1151, qb1152, qb1153, qb1154⟩ := tk_eq (ta := ta) (x := (pf102 11)) (y := (pf_33 11)) (by omega)
            have hmk_v106 := e114
            have hfm_v106 := MkN.frb (b := v106.toInt) hmk_v106 (by omega) (by omega)
            have hf_14_x33_1 := (fb_n hfm_v106 (by omega) (by omega)).trans hf_14_x33_1
            have hf_15_x33_1 := (fb_n hfm_v106 (by omega) (by omega)).trans hf_15_x33_1
            have hf_21_x33_1 := (fb_n hfm_v106 (by omega) (by omega)).trans hf_21_x33_1
            have hf_17_x33_1 := (fb_n hfm_v106 (by omega) (by omega)).trans hf_17_x33_1
            have hf_18_x33_1 := (fb_m hfm_v106 (by omega) (by omega)).trans hf_18_x33_1
            have hv_a17 := hv_a17.ag fe_ok (FrB.ag hfm_v106 (by omega))
            have hz_x33_2 := hz_x33_2.ag fs_ok (FrB.ag hfm_v106 (by omega))
            have hfb := hfb.tr hfm_v106 (by omega)
            have hf_14_v106 := hmk_v106.2.1 (by decide) (by decide)
            have hf_15_v106 := hmk_v106.2.2.1
            have hf_17_v106 := hmk_v106.2.2.2.2.1
            have hf_18_v106 := hmk_v106.2.2.2.2.2.1
            have hf_21_v106 := hmk_v106.2.2.2.2.2.2.2.2.1
            clear hmk_v106 hfm_v106
            have hw : pw D A s.heap H locs [wdP cs h r g tf ta pf102 na103 ma104 wa_33 cf ca ef ea xf xa] := hw
            have lv106 := Int32.le_toInt v106
            have uv106 := Int32.toInt_lt v106
            refine lv_istore_n (lv' := [(3, .int v106), (0, .ref h), (1, .int x33_1), (2, .int x33_2)]) S.x S.b d_Mpg_switching_112 rfl hl (by decide) rfl (fun ls hl => ?_)
            refine lv_aload_n S.x S.b d_Mpg_switching_113 rfl (lv_at hl 1 rfl) ?_
            refine lv_dup S.x S.b d_Mpg_switching_114 rfl ?_
            refine px_get S k_Mpg hT hw 0 0 11 (v := .int (pf102 11)) rfl rfl rfl (by decide) m9_235 d_Mpg_switching_115 ?_
            refine lv_iconst (v := 1) S.x S.b d_Mpg_switching_118 (by decide) ?_
            refine lv_iadd S.x S.b d_Mpg_switching_119 ?_
            have lr116 := Int32.le_toInt (pf102 11)
            have ur116 := Int32.toInt_lt (pf102 11)
            refine lv_topi (fun z117 ez117 => ?_)
            have tz117 : z117.toInt = ((pf102 11).toInt + (1 : Int) + 2147483648) % 4294967296 - 2147483648 := by rw [ez117]; exact i_add (pf102 11) 1
            have lz117 := Int32.le_toInt z117
            have uz117 := Int32.toInt_lt z117
            try replace tz117 : z117.toInt = (pf102 11).toInt + (1 : Int) := by omega
            have hnx119 := tk_n htk (x := (pf102 11)) (y := z117) (by omega) (by omega) (by omega)
            refine px_put S k_Mpg hT hw 0 0 11 rfl rfl (by decide) m9_235 rfl rfl rfl (Nat.le_of_ble_eq_true rfl) d_Mpg_switching_120 (w' := wdP cs h r g tf ta (upd pf102 11 z117) na103 ma104 wa_33 cf ca ef ea xf xa) (ps' := [wdP cs h r g tf ta (upd pf102 11 z117) na103 ma104 wa_33 cf ca ef ea xf xa]) rfl rfl (fun H locs hw => ?_)
            refine lv_aload_n S.x S.b d_Mpg_switching_123 rfl (lv_at hl 1 rfl) ?_
            obtain ⟨sk118, hRsk118, st119, sb120, hSsk118⟩ := oP_lit hP (k := 103) (tx := ":") (n := 1) (List.mem_of_getElem? (i := 43) rfl)
            refine va_ldcS S.x S.b S.own hRsk118 d_Mpg_switching_124 ?_
            refine th_callv (ps0 := [wdP cs h r g tf ta pf na ma wa cf ca ef ea xf xa]) (pr := []) (pcs := [wdP cs h r g tf ta (upd pf102 11 z117) na103 ma104 wa_33 cf ca ef ea xf xa]) (As := [.ref sk118]) (rest := []) (c_mp_take l D cs sk118 1 h r g tf ta na103 ma104 wa_33 cf ca ef ea xf xa (upd pf102 11 z117)   (show 0 ≤ z117.toInt from by omega) (show z117.toInt < (tf 6).toInt from by omega) (show (tf 6).toInt ≤ 2049 from by omega) (show 1 ≤ 100 from by omega) hlf htk) S hT hw (oX_call (P := (fun A U H => (oN A U H) ∧ (oP A g U H) ∧ (StS A sk118 1 U H))) (pr := []) (oG_and oG_N (oG_and oG_P oG_Q)) hw hA ⟨hN, hP, ⟨_, _, hSsk118⟩⟩) (px_recv hT hw 0 0 rfl rfl rfl) m12_57 m12_54 m12_56 ms_9_15 m1_21 q_Mpg_take ⟨show 7 + 1 ≤ (8 * lv + 26) from by omega, show 8 + (2 + 11) + 230 ≤ (220 * lv + 1200) from by omega⟩ hl.1 rfl (Nat.le_of_ble_eq_true rfl) d_Mpg_switching_126 ⟨Nat.le_of_ble_eq_true rfl, Nat.le_of_ble_eq_true rfl⟩ hne hlk hA hAe (fun o t h => Or.inr h) ?_ (fun p123 H locs hp123 hw => ?_)
            · exact fun p1 H1 locs1 hp hw => by obtain ⟨pq1, pq2, pq3, pq4, rfl, hq1, hq2⟩ := hp; exact ⟨_, ⟨pq1, pq2, pq3, pq4, rfl, hq1, hq2⟩, hw⟩
            obtain ⟨pf122, rfl, e125, e126, e127, e128, e129, e130, e131, e132⟩ := hp123
            have e125 : (pf122 11).toInt = z117.toInt + 1 := e125
            have e126 : (pf122 11).toInt < (tf 6).toInt := e126
            have e127 : bp ta z117 + 1 ≤ bp ta (pf122 11) := e127
            have e128 : (pf122 12).toInt = (pf102 12).toInt := e128
            have e129 : (pf122 13).toInt = (pf102 13).toInt := e129
            have e130 : (pf122 24).toInt = (pf102 24).toInt := e130
            have e131 : (pf122 25).toInt = (pf102 25).toInt := e131
            have e132 : (pf122 26).toInt = (pf102 26).toInt := e132
            have hw : pw D A s.heap H locs [wdP cs h r g tf ta pf122 na103 ma104 wa_33 cf ca ef ea xf xa] := hw
            refine lv_goto (tgt := 150) S.x S.b d_Mpg_switching_129 (by decide) ?_
            refine lv_aload_n S.x S.b d_Mpg_switching_150 rfl (lv_at hl 1 rfl) ?_
            have hv_v106 : VlS ta (tf 6).toInt na103 ma104 v106 v106.toInt (pf122 13).toInt _ _ := st_default (hi := (pf122 13).toInt) (D := 130) ⟨by omega, hf_14_v106, hf_15_v106, ⟨by omega, by omega⟩, hf_21_v106⟩ (by omega) (by omega); have hn_hv_v106 := hv_v106.num fs_ok
            refine px_get S k_Mpg hT hw 0 0 18 (v := .ref (r 18)) rfl rfl rfl (by decide) m10_3 d_Mpg_switching_151 ?_
            refine lv_iload_n S.x S.b d_Mpg_switching_154 rfl (lv_at hl 2 rfl) ?_
            refine lv_aload_n S.x S.b d_Mpg_switching_155 rfl (lv_at hl 1 rfl) ?_
            refine lv_aload_n S.x S.b d_Mpg_switching_156 rfl (lv_at hl 1 rfl) ?_
            refine px_get S k_Mpg hT hw 0 0 18 (v := .ref (r 18)) rfl rfl rfl (by decide) m10_3 d_Mpg_switching_157 ?_
            refine lv_iload_n S.x S.b d_Mpg_switching_160 rfl (lv_at hl 2 rfl) ?_
            refine px_iald S hT hw 0 14 (n := 2100) (f := (ma104 18)) rfl gp_18 (x := x33_1) (vp_in_iff.mpr (by constructor <;> omega)) d_Mpg_switching_161 ?_
            refine lv_topi (fun z133 ez133 => ?_)
            have lz133 := Int32.le_toInt z133
            have uz133 := Int32.toInt_lt z133
            have hsz133 : b18 = z133 := (ez133.trans hf_18_x33_1).symm; subst hsz133
            refine lv_iload_n S.x S.b d_Mpg_switching_162 rfl (lv_at hl 3 rfl) ?_
            refine lv_iload_n S.x S.b d_Mpg_switching_163 rfl (lv_at hl 0 rfl) ?_
            refine px_calli (pr := []) (px_runV (As := [.int b18, .int x33_2, .int v106]) (rest := [.int x33_1, .ref (r 18)]) S (c_mp_hang l D cs h r g tf ta pf122 ma104 wa_33 cf ca ef ea xf xa na103 b18 x33_2 v106  (show x33_2.toInt < 2100 from by omega) htk _) hT (pr := []) (pcs := [wdP cs h r g tf ta pf122 na103 ma104 wa_33 cf ca ef ea xf xa]) hw px_X.tt (px_recv hT hw 0 0 rfl rfl rfl) m12_77 m12_74 m12_76 ms_10_4 m1_21 q_Mpg_hang ⟨show 0 + 1 ≤ (8 * lv + 26) from by omega, show 8 + (4 + 11) + 0 ≤ (220 * lv + 1200) from by omega⟩ hl.1 rfl (Nat.le_of_ble_eq_true rfl) d_Mpg_switching_164 ⟨Nat.le_of_ble_eq_true rfl, Nat.le_of_ble_eq_true rfl⟩) hw hA (fun v137 p136 H locs hp136 hw => ?_)
            obtain ⟨na135, rfl, e138⟩ := hp136
            have e138 : Hg na103 na135 b18 x33_2 v106 v137 := e138
            have hf_14_x33_1 := (Hg.fld e138 (by omega) (by omega)).trans hf_14_x33_1
            have hf_15_x33_1 := (Hg.fld e138 (by omega) (by omega)).trans hf_15_x33_1
            have hf_21_x33_1 := (Hg.fld e138 (by omega) (by omega)).trans hf_21_x33_1
            have hf_17_x33_1 := (Hg.fld e138 (by omega) (by omega)).trans hf_17_x33_1
            have hrw_v106 := Hg.row e138 fs_ok hz_x33_2 (VlV.le hv_v106 (by omega) (Int.le_refl _) (Int.le_refl _) (by omega)) (by omega) (by omega)
            have hn_hrw_v106 := hrw_v106.num
            have hv_a17 := hv_a17.ag fe_ok (Hg.ag e138 (by omega))
            have hfb := Hg.fb e138 hfb (by omega)
            have hw : pw D A s.heap H locs [wdP cs h r g tf ta pf122 na135 ma104 wa_33 cf ca ef ea xf xa] := hw
            have lv137 := Int32.le_toInt v137
            have uv137 := Int32.toInt_lt v137
            refine px_iast S hT hw 0 14 (n := 2100) (f := (ma104 18)) (x := x33_1) (y := v137) rfl gp_18 (vp_in_iff.mpr (by constructor <;> omega)) d_Mpg_switching_167 (w' := wdP cs h r g tf ta pf122 na135 (va_up ma104 18 (upd (ma104 18) x33_1.toNatClampNeg v137)) wa_33 cf ca ef ea xf xa) (ps' := [wdP cs h r g tf ta pf122 na135 (va_up ma104 18 (upd (ma104 18) x33_1.toNatClampNeg v137)) wa_33 cf ca ef ea xf xa]) sp_18 rfl (fun H locs hw => ?_)
            obtain ⟨ma139, hu_ma139⟩ : ∃ y : Nat → Nat → Int32, y = va_up ma104 18 (upd (ma104 18) x33_1.toNatClampNeg v137) := ⟨_, rfl⟩
            have hw : pw D A s.heap _ _ [wdP cs h r g tf ta pf122 na135 ma139 wa_33 cf ca ef ea xf xa] := (by rw [hu_ma139]; exact hw)
            have hv_a17 := hv_a17.ag fe_ok (ag_m hu_ma139 (by omega) (by omega))
            have hrw_v106 := hrw_v106.ag fs_ok (ag_m hu_ma139 (by omega) (by omega))
            have hf_18_x33_1 : ma139 18 x33_1.toNatClampNeg = v137 := (by rw [hu_ma139, va_up_s, pk_us])
            have hfb : FrB (pf 13).toInt na ma na135 ma139 := (by rw [hu_ma139]; exact FrB.um hfb (by omega) (by omega))
            refine lv_iload_n S.x S.b d_Mpg_switching_168 rfl (lv_at hl 0 rfl) ?_
            refine lv_istore_n (lv' := [(2, .int v106), (3, .int v106), (0, .ref h), (1, .int x33_1)]) S.x S.b d_Mpg_switching_169 rfl hl (by decide) rfl (fun ls hl => ?_)
            refine lv_goto (tgt := 33) S.x S.b d_Mpg_switching_170 (by decide) ?_
            exact ih33 pf122 na135 ma139 wa_33 x33_1 v106 _ _ ls (show (pf122 24).toInt = (pf 24).toInt from by omega) (show (pf122 25).toInt = (pf 25).toInt from by omega) (show (pf122 26).toInt = (pf 26).toInt from by omega) (show (pf122 12).toInt = (pf 12).toInt + 2 from by omega) (show (pf122 12).toInt ≤ 60 from by omega) (show (pf 11).toInt + 2 ≤ (pf122 11).toInt from by omega) (show (pf122 11).toInt < (tf 6).toInt from by omega) (show x33_1.toInt = (pf 13).toInt from by omega) (show x33_1.toInt < (pf122 13).toInt from by omega) (show (pf122 13).toInt - (pf 13).toInt ≤ (pf122 11).toInt - (pf 11).toInt from by omega) (show bp ta (pf 11) + 2 ≤ bp ta (pf122 11) from by omega) (show v106.toInt = -1 ∨ x33_1.toInt + 1 ≤ v106.toInt from by omega) (show v106.toInt < (pf122 13).toInt from by omega) (show FrB (pf 13).toInt na ma na135 ma139 from hfb) (show FrW (pf 26).toInt wa wa_33 from hfw) (show NdF (tf 6).toInt na135 x33_1 28 (pf 11) from ⟨by omega, hf_14_x33_1, hf_15_x33_1, ⟨by omega, by omega⟩, hf_21_x33_1⟩) (show SwV ta (tf 6).toInt na135 ma139 x33_1 v106 (pf122 13).toInt (3 * (bp ta (pf122 11) - bp ta (pf 11)) - 3) (198 - (pf 12).toInt) from ⟨_, _, _, _, _, hf_17_x33_1, hf_18_x33_1, by omega, by omega, (VlV.le hv_a17 (by omega) (Int.le_refl _) (Int.le_refl _) (by omega)), (Or.inr (RwV.le hrw_v106 (by omega) (by omega) (Int.le_refl _) (by omega))), by omega, by omega, by omega⟩) (show (tf 6).toInt - (pf122 11).toInt < (n_33 : Int) from by omega) hw (lv_sub hl [2, 3, 0] rfl)
        · have nc30 : ¬ v27.toInt = (0 : Int) := mt (i_eq (x := v27) (y := 0)).mpr c30
          refine lv_aload_n S.x S.b d_Mpg_switching_53 rfl (lv_at hl 1 rfl) ?_
          refine lv_bipush (v := 29) S.x S.b d_Mpg_switching_54 (by decide) ?_
          refine lv_aload_n S.x S.b d_Mpg_switching_56 rfl (lv_at hl 1 rfl) ?_
          refine px_get S k_Mpg hT hw 0 0 11 (v := .int (pf_33 11)) rfl rfl rfl (by decide) m9_235 d_Mpg_switching_57 ?_
          refine px_calli (pr := []) (px_runV (As := [.int 29, .int (pf_33 11)]) (rest := []) S (c_mp_make l D cs h r g tf ta wa_33 cf ca ef ea xf xa pf_33 na_33 ma_33 29 (pf_33 11)  (show 0 ≤ (pf_33 13).toInt from by omega) (show (pf_33 13).toInt < 2100 from by omega) _) hT (pr := []) (pcs := [wdP cs h r g tf ta pf_33 na_33 ma_33 wa_33 cf ca ef ea xf xa]) hw px_X.tt (px_recv hT hw 0 0 rfl rfl rfl) m11_209 m11_206 m11_208 ms_8_12 m1_21 q_Mpg_make ⟨show 0 + 1 ≤ (8 * lv + 26) from by omega, show 8 + (3 + 11) + 0 ≤ (220 * lv + 1200) from by omega⟩ hl.1 rfl (Nat.le_of_ble_eq_true rfl) d_Mpg_switching_60 ⟨Nat.le_of_ble_eq_true rfl, Nat.le_of_ble_eq_true rfl⟩) hw hA (fun v147 p146 H locs hp146 hw => ?_)
          obtain ⟨pf143, na144, ma145, rfl, e148, e149, e150, e151, e152, e153, e154, e155⟩ := hp146
          have e148 : v147.toInt = (pf_33 13).toInt := e148
          have e149 : (pf143 13).toInt = (pf_33 13).toInt + 1 := e149
          have e150 : (pf143 11).toInt = (pf_33 11).toInt := e150
          have e151 : (pf143 12).toInt = (pf_33 12).toInt := e151
          have e152 : (pf143 24).toInt = (pf_33 24).toInt := e152
          have e153 : (pf143 25).toInt = (pf_33 25).toInt := e153
          have e154 : (pf143 26).toInt = (pf_33 26).toInt := e154
          have e155 : MkN na_33 ma_33 na144 ma145 v147 (29 : Int32) (pf_33 11) := e155
          obtain ⟨qb1561, qb1562, qb1563, qb1564⟩ := tk_eq (ta := ta) (x := (pf143 11)) (y := (pf_33 11)) (by omega)
          have hmk_v147 := e155
          have hfm_v147 := MkN.frb (b := v147.toInt) hmk_v147 (by omega) (by omega)
          have hf_14_x33_1 := (fb_n hfm_v147 (by omega) (by omega)).trans hf_14_x33_1
          have hf_15_x33_1 := (fb_n hfm_v147 (by omega) (by omega)).trans hf_15_x33_1
          have hf_21_x33_1 := (fb_n hfm_v147 (by omega) (by omega)).trans hf_21_x33_1
          have hf_17_x33_1 := (fb_n hfm_v147 (by omega) (by omega)).trans hf_17_x33_1
          have hf_18_x33_1 := (fb_m hfm_v147 (by omega) (by omega)).trans hf_18_x33_1
          have hv_a17 := hv_a17.ag fe_ok (FrB.ag hfm_v147 (by omega))
          have hz_x33_2 := hz_x33_2.ag fs_ok (FrB.ag hfm_v147 (by omega))
          have hfb := hfb.tr hfm_v147 (by omega)
          have hf_14_v147 := hmk_v147.2.1 (by decide) (by decide)
          have hf_15_v147 := hmk_v147.2.2.1
          have hf_17_v147 := hmk_v147.2.2.2.2.1
          have hf_18_v147 := hmk_v147.2.2.2.2.2.1
          have hf_21_v147 := hmk_v147.2.2.2.2.2.2.2.2.1
          clear hmk_v147 hfm_v147
          have hw : pw D A s.heap H locs [wdP cs h r g tf ta pf143 na144 ma145 wa_33 cf ca ef ea xf xa] := hw
          have lv147 := Int32.le_toInt v147
          have uv147 := Int32.toInt_lt v147
          refine lv_istore_n (lv' := [(3, .int v147), (0, .ref h), (1, .int x33_1), (2, .int x33_2)]) S.x S.b d_Mpg_switching_63 rfl hl (by decide) rfl (fun ls hl => ?_)
          refine lv_aload_n S.x S.b d_Mpg_switching_64 rfl (lv_at hl 1 rfl) ?_
          refine lv_dup S.x S.b d_Mpg_switching_65 rfl ?_
          refine px_get S k_Mpg hT hw 0 0 11 (v := .int (pf143 11)) rfl rfl rfl (by decide) m9_235 d_Mpg_switching_66 ?_
          refine lv_iconst (v := 1) S.x S.b d_Mpg_switching_69 (by decide) ?_
          refine lv_iadd S.x S.b d_Mpg_switching_70 ?_
          have lr157 := Int32.le_toInt (pf143 11)
          have ur157 := Int32.toInt_lt (pf143 11)
          refine lv_topi (fun z158 ez158 => ?_)
          have tz158 : z158.toInt = ((pf143 11).toInt + (1 : Int) + 2147483648) % 4294967296 - 2147483648 := by rw [ez158]; exact i_add (pf143 11) 1
          have lz158 := Int32.le_toInt z158
          have uz158 := Int32.toInt_lt z158
          try replace tz158 : z158.toInt = (pf143 11).toInt + (1 : Int) := by omega
          have hnx70 := tk_n htk (x := (pf143 11)) (y := z158) (by omega) (by omega) (by omega)
          refine px_put S k_Mpg hT hw 0 0 11 rfl rfl (by decide) m9_235 rfl rfl rfl (Nat.le_of_ble_eq_true rfl) d_Mpg_switching_71 (w' := wdP cs h r g tf ta (upd pf143 11 z158) na144 ma145 wa_33 cf ca ef ea xf xa) (ps' := [wdP cs h r g tf ta (upd pf143 11 z158) na144 ma145 wa_33 cf ca ef ea xf xa]) rfl rfl (fun H locs hw => ?_)
          refine lv_aload_n S.x S.b d_Mpg_switching_74 rfl (lv_at hl 1 rfl) ?_
          refine px_get S k_Mpg hT hw 0 0 17 (v := .ref (r 17)) rfl rfl rfl (by decide) m10_1 d_Mpg_switching_75 ?_
          refine lv_iload_n S.x S.b d_Mpg_switching_78 rfl (lv_at hl 0 rfl) ?_
          refine lv_aload_n S.x S.b d_Mpg_switching_79 rfl (lv_at hl 1 rfl) ?_
          refine th_calli (ps0 := [wdP cs h r g tf ta pf na ma wa cf ca ef ea xf xa]) (pr := []) (pcs := [wdP cs h r g tf ta (upd pf143 11 z158) na144 ma145 wa_33 cf ca ef ea xf xa]) (As := []) (rest := [.int v147, .ref (r 17)]) (c_mp_constant l D cs h r g tf ta cf ca ef ea xf xa (upd pf143 11 z158) na144 ma145 wa_33  lv (show 0 ≤ z158.toInt from by omega) (show z158.toInt < (tf 6).toInt from by omega) (show (tf 6).toInt ≤ 2049 from by omega) (show 0 ≤ (pf143 12).toInt from by omega) (show (pf143 12).toInt ≤ 60 from by omega) (show 0 ≤ (pf143 13).toInt from by omega) (show (pf143 13).toInt ≤ z158.toInt + 10 from by omega) (show 0 ≤ (pf143 26).toInt from by omega) (show (pf143 26).toInt ≤ (pf143 12).toInt from by omega) (show 61 ≤ (pf143 12).toInt + (lv : Int) from by omega) (show lv ≤ 61 from by omega) hlf htk) S hT hw (oX_call (P := (fun A U H => (oN A U H) ∧ (oP A g U H))) (pr := []) (oG_and oG_N oG_P) hw hA ⟨hN, hP⟩) (px_recv hT hw 0 0 rfl rfl rfl) m12_10 m12_7 m12_9 ms_9_4 m1_21 q_Mpg_constant ⟨show (8 * lv + 21) + 1 ≤ (8 * lv + 26) from by omega, show 8 + (2 + 11) + (220 * lv + 720) ≤ (220 * lv + 1200) from by omega⟩ hl.1 rfl (Nat.le_of_ble_eq_true rfl) d_Mpg_switching_80 ⟨Nat.le_of_ble_eq_true rfl, Nat.le_of_ble_eq_true rfl⟩ hne hlk hA hAe (fun o t h => Or.inr h) ?_ (fun v168 p167 H locs hp167 hw => ?_)
          · exact fun p1 H1 locs1 hp hw => by obtain ⟨pq1, pq2, pq3, pq4, rfl, hq1, hq2⟩ := hp; exact ⟨_, ⟨pq1, pq2, pq3, pq4, rfl, hq1, hq2⟩, hw⟩
          obtain ⟨pf163, na164, ma165, wa166, rfl, e169, e170, e171, e172, e173, e174, e175, e176, e177, e178, e179, e180⟩ := hp167
          have e169 : z158.toInt + 1 ≤ (pf163 11).toInt := e169
          have e170 : (pf163 11).toInt < (tf 6).toInt := e170
          have e171 : (pf143 13).toInt + 1 ≤ (pf163 13).toInt := e171
          have e172 : (pf163 13).toInt - (pf143 13).toInt ≤ (pf163 11).toInt - z158.toInt := e172
          have e173 : bp ta z158 + 1 ≤ bp ta (pf163 11) := e173
          have e174 : (pf163 12).toInt = (pf143 12).toInt := e174
          have e175 : (pf163 24).toInt = (pf143 24).toInt := e175
          have e176 : (pf163 25).toInt = (pf143 25).toInt := e176
          have e177 : (pf163 26).toInt = (pf143 26).toInt := e177
          have e178 : FrB (pf143 13).toInt na144 ma145 na164 ma165 := e178
          have hf_14_x33_1 := (fb_n e178 (by omega) (by omega)).trans hf_14_x33_1
          have hf_15_x33_1 := (fb_n e178 (by omega) (by omega)).trans hf_15_x33_1
          have hf_21_x33_1 := (fb_n e178 (by omega) (by omega)).trans hf_21_x33_1
          have hf_17_x33_1 := (fb_n e178 (by omega) (by omega)).trans hf_17_x33_1
          have hf_18_x33_1 := (fb_m e178 (by omega) (by omega)).trans hf_18_x33_1
          have hf_14_v147 := (fb_n e178 (by omega) (by omega)).trans hf_14_v147
          have hf_15_v147 := (fb_n e178 (by omega) (by omega)).trans hf_15_v147
          have hf_17_v147 := (fb_n e178 (by omega) (by omega)).trans hf_17_v147
          have hf_18_v147 := (fb_m e178 (by omega) (by omega)).trans hf_18_v147
          have hf_21_v147 := (fb_n e178 (by omega) (by omega)).trans hf_21_v147
          have hv_a17 := hv_a17.ag fe_ok (FrB.ag e178 (by omega))
          have hz_x33_2 := hz_x33_2.ag fs_ok (FrB.ag e178 (by omega))
          have hfb := hfb.tr e178 (by omega)
          have e179 : FrW (pf143 26).toInt wa_33 wa166 := e179
          have hfw := hfw.tr e179 (by omega)
          have e180 : ExR ta (tf 6).toInt na164 ma165 v168 (pf143 13).toInt (pf163 13).toInt (3 * (bp ta (pf163 11) - bp ta z158)) (pf143 12).toInt := e180
          have ht_v168 := e180
          have hn_ht_v168 := ht_v168.num
          have hw : pw D A s.heap H locs [wdP cs h r g tf ta pf163 na164 ma165 wa166 cf ca ef ea xf xa] := hw
          have lv168 := Int32.le_toInt v168
          have uv168 := Int32.toInt_lt v168
          refine px_iast S hT hw 0 13 (n := 2100) (f := (na164 17)) (x := v147) (y := v168) rfl gp_17 (vp_in_iff.mpr (by constructor <;> omega)) d_Mpg_switching_83 (w' := wdP cs h r g tf ta pf163 (va_up na164 17 (upd (na164 17) v147.toNatClampNeg v168)) ma165 wa166 cf ca ef ea xf xa) (ps' := [wdP cs h r g tf ta pf163 (va_up na164 17 (upd (na164 17) v147.toNatClampNeg v168)) ma165 wa166 cf ca ef ea xf xa]) sp_17 rfl (fun H locs hw => ?_)
          obtain ⟨na181, hu_na181⟩ : ∃ y : Nat → Nat → Int32, y = va_up na164 17 (upd (na164 17) v147.toNatClampNeg v168) := ⟨_, rfl⟩
          have hw : pw D A s.heap _ _ [wdP cs h r g tf ta pf163 na181 ma165 wa166 cf ca ef ea xf xa] := (by rw [hu_na181]; exact hw)
          obtain ⟨ht_v168, hdq_v168⟩ := ht_v168.ag (ag_n hu_na181 (by omega) (by omega)) (by omega)
          have hn_ht_v168 := ht_v168.num
          have hv_a17 := hv_a17.ag fe_ok (ag_n hu_na181 (by omega) (by omega))
          have hz_x33_2 := hz_x33_2.ag fs_ok (ag_n hu_na181 (by omega) (by omega))
          have hf_14_x33_1 := (fl_n hu_na181 (by decide)).trans hf_14_x33_1
          have hf_15_x33_1 := (fl_n hu_na181 (by decide)).trans hf_15_x33_1
          have hf_21_x33_1 := (fl_n hu_na181 (by decide)).trans hf_21_x33_1
          have hf_17_x33_1 := (fl_f hu_na181 (by omega) (by omega) (by omega)).trans hf_17_x33_1
          have hf_14_v147 := (fl_n hu_na181 (by decide)).trans hf_14_v147
          have hf_15_v147 := (fl_n hu_na181 (by decide)).trans hf_15_v147
          have hf_21_v147 := (fl_n hu_na181 (by decide)).trans hf_21_v147
          have hf_17_v147 : na181 17 v147.toNatClampNeg = v168 := (by rw [hu_na181, va_up_s, pk_us])
          have hfb : FrB (pf 13).toInt na ma na181 ma165 := (by rw [hu_na181]; exact FrB.un hfb (by omega) (by omega))
          refine lv_aload_n S.x S.b d_Mpg_switching_84 rfl (lv_at hl 1 rfl) ?_
          obtain ⟨sk182, hRsk182, st183, sb184, hSsk182⟩ := oP_lit hP (k := 103) (tx := ":") (n := 1) (List.mem_of_getElem? (i := 43) rfl)
          refine va_ldcS S.x S.b S.own hRsk182 d_Mpg_switching_85 ?_
          refine th_callv (ps0 := [wdP cs h r g tf ta pf na ma wa cf ca ef ea xf xa]) (pr := []) (pcs := [wdP cs h r g tf ta pf163 na181 ma165 wa166 cf ca ef ea xf xa]) (As := [.ref sk182]) (rest := []) (c_mp_take l D cs sk182 1 h r g tf ta na181 ma165 wa166 cf ca ef ea xf xa pf163   (show 0 ≤ (pf163 11).toInt from by omega) (show (pf163 11).toInt < (tf 6).toInt from by omega) (show (tf 6).toInt ≤ 2049 from by omega) (show 1 ≤ 100 from by omega) hlf htk) S hT hw (oX_call (P := (fun A U H => (oN A U H) ∧ (oP A g U H) ∧ (StS A sk182 1 U H))) (pr := []) (oG_and oG_N (oG_and oG_P oG_Q)) hw hA ⟨hN, hP, ⟨_, _, hSsk182⟩⟩) (px_recv hT hw 0 0 rfl rfl rfl) m12_57 m12_54 m12_56 ms_9_15 m1_21 q_Mpg_take ⟨show 7 + 1 ≤ (8 * lv + 26) from by omega, show 8 + (2 + 11) + 230 ≤ (220 * lv + 1200) from by omega⟩ hl.1 rfl (Nat.le_of_ble_eq_true rfl) d_Mpg_switching_87 ⟨Nat.le_of_ble_eq_true rfl, Nat.le_of_ble_eq_true rfl⟩ hne hlk hA hAe (fun o t h => Or.inr h) ?_ (fun p187 H locs hp187 hw => ?_)
          · exact fun p1 H1 locs1 hp hw => by obtain ⟨pq1, pq2, pq3, pq4, rfl, hq1, hq2⟩ := hp; exact ⟨_, ⟨pq1, pq2, pq3, pq4, rfl, hq1, hq2⟩, hw⟩
          obtain ⟨pf186, rfl, e189, e190, e191, e192, e193, e194, e195, e196⟩ := hp187
          have e189 : (pf186 11).toInt = (pf163 11).toInt + 1 := e189
          have e190 : (pf186 11).toInt < (tf 6).toInt := e190
          have e191 : bp ta (pf163 11) + 1 ≤ bp ta (pf186 11) := e191
          have e192 : (pf186 12).toInt = (pf163 12).toInt := e192
          have e193 : (pf186 13).toInt = (pf163 13).toInt := e193
          have e194 : (pf186 24).toInt = (pf163 24).toInt := e194
          have e195 : (pf186 25).toInt = (pf163 25).toInt := e195
          have e196 : (pf186 26).toInt = (pf163 26).toInt := e196
          have hw : pw D A s.heap H locs [wdP cs h r g tf ta pf186 na181 ma165 wa166 cf ca ef ea xf xa] := hw
          refine lv_goto (tgt := 150) S.x S.b d_Mpg_switching_90 (by decide) ?_
          refine lv_aload_n S.x S.b d_Mpg_switching_150 rfl (lv_at hl 1 rfl) ?_
          have hv_v147 : VlS ta (tf 6).toInt na181 ma165 v147 v147.toInt (pf186 13).toInt _ _ := st_case (hi := (pf186 13).toInt) (D := 130) ⟨by omega, hf_14_v147, hf_15_v147, ⟨by omega, by omega⟩, hf_21_v147⟩ hf_17_v147 (by omega) (lo := v147.toInt + 1) (VlV.le (exr_vl ht_v168 (by omega)) (by omega) (by omega) (Int.le_refl _) (by omega)) (by omega); have hn_hv_v147 := hv_v147.num fs_ok
          refine px_get S k_Mpg hT hw 0 0 18 (v := .ref (r 18)) rfl rfl rfl (by decide) m10_3 d_Mpg_switching_151 ?_
          refine lv_iload_n S.x S.b d_Mpg_switching_154 rfl (lv_at hl 2 rfl) ?_
          refine lv_aload_n S.x S.b d_Mpg_switching_155 rfl (lv_at hl 1 rfl) ?_
          refine lv_aload_n S.x S.b d_Mpg_switching_156 rfl (lv_at hl 1 rfl) ?_
          refine px_get S k_Mpg hT hw 0 0 18 (v := .ref (r 18)) rfl rfl rfl (by decide) m10_3 d_Mpg_switching_157 ?_
          refine lv_iload_n S.x S.b d_Mpg_switching_160 rfl (lv_at hl 2 rfl) ?_
          refine px_iald S hT hw 0 14 (n := 2100) (f := (ma165 18)) rfl gp_18 (x := x33_1) (vp_in_iff.mpr (by constructor <;> omega)) d_Mpg_switching_161 ?_
          refine lv_topi (fun z197 ez197 => ?_)
          have lz197 := Int32.le_toInt z197
          have uz197 := Int32.toInt_lt z197
          have hsz197 : b18 = z197 := (ez197.trans hf_18_x33_1).symm; subst hsz197
          refine lv_iload_n S.x S.b d_Mpg_switching_162 rfl (lv_at hl 3 rfl) ?_
          refine lv_iload_n S.x S.b d_Mpg_switching_163 rfl (lv_at hl 0 rfl) ?_
          refine px_calli (pr := []) (px_runV (As := [.int b18, .int x33_2, .int v147]) (rest := [.int x33_1, .ref (r 18)]) S (c_mp_hang l D cs h r g tf ta pf186 ma165 wa166 cf ca ef ea xf xa na181 b18 x33_2 v147  (show x33_2.toInt < 2100 from by omega) htk _) hT (pr := []) (pcs := [wdP cs h r g tf ta pf186 na181 ma165 wa166 cf ca ef ea xf xa]) hw px_X.tt (px_recv hT hw 0 0 rfl rfl rfl) m12_77 m12_74 m12_76 ms_10_4 m1_21 q_Mpg_hang ⟨show 0 + 1 ≤ (8 * lv + 26) from by omega, show 8 + (4 + 11) + 0 ≤ (220 * lv + 1200) from by omega⟩ hl.1 rfl (Nat.le_of_ble_eq_true rfl) d_Mpg_switching_164 ⟨Nat.le_of_ble_eq_true rfl, Nat.le_of_ble_eq_true rfl⟩) hw hA (fun v201 p200 H locs hp200 hw => ?_)
          obtain ⟨na199, rfl, e202⟩ := hp200
          have e202 : Hg na181 na199 b18 x33_2 v147 v201 := e202
          have hf_14_x33_1 := (Hg.fld e202 (by omega) (by omega)).trans hf_14_x33_1
          have hf_15_x33_1 := (Hg.fld e202 (by omega) (by omega)).trans hf_15_x33_1
          have hf_21_x33_1 := (Hg.fld e202 (by omega) (by omega)).trans hf_21_x33_1
          have hf_17_x33_1 := (Hg.fld e202 (by omega) (by omega)).trans hf_17_x33_1
          have hrw_v147 := Hg.row e202 fs_ok hz_x33_2 (VlV.le hv_v147 (by omega) (Int.le_refl _) (Int.le_refl _) (by omega)) (by omega) (by omega)
          have hn_hrw_v147 := hrw_v147.num
          have hv_a17 := hv_a17.ag fe_ok (Hg.ag e202 (by omega))
          have hfb := Hg.fb e202 hfb (by omega)
          have hw : pw D A s.heap H locs [wdP cs h r g tf ta pf186 na199 ma165 wa166 cf ca ef ea xf xa] := hw
          have lv201 := Int32.le_toInt v201
          have uv201 := Int32.toInt_lt v201
          refine px_iast S hT hw 0 14 (n := 2100) (f := (ma165 18)) (x := x33_1) (y := v201) rfl gp_18 (vp_in_iff.mpr (by constructor <;> omega)) d_Mpg_switching_167 (w' := wdP cs h r g tf ta pf186 na199 (va_up ma165 18 (upd (ma165 18) x33_1.toNatClampNeg v201)) wa166 cf ca ef ea xf xa) (ps' := [wdP cs h r g tf ta pf186 na199 (va_up ma165 18 (upd (ma165 18) x33_1.toNatClampNeg v201)) wa166 cf ca ef ea xf xa]) sp_18 rfl (fun H locs hw => ?_)
          obtain ⟨ma203, hu_ma203⟩ : ∃ y : Nat → Nat → Int32, y = va_up ma165 18 (upd (ma165 18) x33_1.toNatClampNeg v201) := ⟨_, rfl⟩
          have hw : pw D A s.heap _ _ [wdP cs h r g tf ta pf186 na199 ma203 wa166 cf ca ef ea xf xa] := (by rw [hu_ma203]; exact hw)
          have hv_a17 := hv_a17.ag fe_ok (ag_m hu_ma203 (by omega) (by omega))
          have hrw_v147 := hrw_v147.ag fs_ok (ag_m hu_ma203 (by omega) (by omega))
          have hf_18_x33_1 : ma203 18 x33_1.toNatClampNeg = v201 := (by rw [hu_ma203, va_up_s, pk_us])
          have hfb : FrB (pf 13).toInt na ma na199 ma203 := (by rw [hu_ma203]; exact FrB.um hfb (by omega) (by omega))
          refine lv_iload_n S.x S.b d_Mpg_switching_168 rfl (lv_at hl 0 rfl) ?_
          refine lv_istore_n (lv' := [(2, .int v147), (3, .int v147), (0, .ref h), (1, .int x33_1)]) S.x S.b d_Mpg_switching_169 rfl hl (by decide) rfl (fun ls hl => ?_)
          refine lv_goto (tgt := 33) S.x S.b d_Mpg_switching_170 (by decide) ?_
          exact ih33 pf186 na199 ma203 wa166 x33_1 v147 _ _ ls (show (pf186 24).toInt = (pf 24).toInt from by omega) (show (pf186 25).toInt = (pf 25).toInt from by omega) (show (pf186 26).toInt = (pf 26).toInt from by omega) (show (pf186 12).toInt = (pf 12).toInt + 2 from by omega) (show (pf186 12).toInt ≤ 60 from by omega) (show (pf 11).toInt + 2 ≤ (pf186 11).toInt from by omega) (show (pf186 11).toInt < (tf 6).toInt from by omega) (show x33_1.toInt = (pf 13).toInt from by omega) (show x33_1.toInt < (pf186 13).toInt from by omega) (show (pf186 13).toInt - (pf 13).toInt ≤ (pf186 11).toInt - (pf 11).toInt from by omega) (show bp ta (pf 11) + 2 ≤ bp ta (pf186 11) from by omega) (show v147.toInt = -1 ∨ x33_1.toInt + 1 ≤ v147.toInt from by omega) (show v147.toInt < (pf186 13).toInt from by omega) (show FrB (pf 13).toInt na ma na199 ma203 from hfb) (show FrW (pf 26).toInt wa wa166 from hfw) (show NdF (tf 6).toInt na199 x33_1 28 (pf 11) from ⟨by omega, hf_14_x33_1, hf_15_x33_1, ⟨by omega, by omega⟩, hf_21_x33_1⟩) (show SwV ta (tf 6).toInt na199 ma203 x33_1 v147 (pf186 13).toInt (3 * (bp ta (pf186 11) - bp ta (pf 11)) - 3) (198 - (pf 12).toInt) from ⟨_, _, _, _, _, hf_17_x33_1, hf_18_x33_1, by omega, by omega, (VlV.le hv_a17 (by omega) (Int.le_refl _) (Int.le_refl _) (by omega)), (Or.inr (RwV.le hrw_v147 (by omega) (by omega) (Int.le_refl _) (by omega))), by omega, by omega, by omega⟩) (show (tf 6).toInt - (pf186 11).toInt < (n_33 : Int) from by omega) hw (lv_sub hl [2, 3, 0] rfl)
  refine lv_aload_n S.x S.b d_Mpg_switching_0 rfl (lv_at hl 0 rfl) ?_
  refine lv_bipush (v := 28) S.x S.b d_Mpg_switching_1 (by decide) ?_
  refine lv_aload_n S.x S.b d_Mpg_switching_3 rfl (lv_at hl 0 rfl) ?_
  refine px_get S k_Mpg hT hw 0 0 11 (v := .int (pf 11)) rfl rfl rfl (by decide) m9_235 d_Mpg_switching_4 ?_
  refine px_calli (pr := []) (px_runV (As := [.int 28, .int (pf 11)]) (rest := []) S (c_mp_make l D cs h r g tf ta wa cf ca ef ea xf xa pf na ma 28 (pf 11)  (show 0 ≤ (pf 13).toInt from by omega) (show (pf 13).toInt < 2100 from by omega) _) hT (pr := []) (pcs := [wdP cs h r g tf ta pf na ma wa cf ca ef ea xf xa]) hw px_X.tt (px_recv hT hw 0 0 rfl rfl rfl) m11_209 m11_206 m11_208 ms_8_12 m1_21 q_Mpg_make ⟨show 0 + 1 ≤ (8 * lv + 26) from by omega, show 8 + (3 + 11) + 0 ≤ (220 * lv + 1200) from by omega⟩ hl.1 rfl (Nat.le_of_ble_eq_true rfl) d_Mpg_switching_7 ⟨Nat.le_of_ble_eq_true rfl, Nat.le_of_ble_eq_true rfl⟩) hw hA (fun v211 p210 H locs hp210 hw => ?_)
  obtain ⟨pf207, na208, ma209, rfl, e212, e213, e214, e215, e216, e217, e218, e219⟩ := hp210
  have e212 : v211.toInt = (pf 13).toInt := e212
  have e213 : (pf207 13).toInt = (pf 13).toInt + 1 := e213
  have e214 : (pf207 11).toInt = (pf 11).toInt := e214
  have e215 : (pf207 12).toInt = (pf 12).toInt := e215
  have e216 : (pf207 24).toInt = (pf 24).toInt := e216
  have e217 : (pf207 25).toInt = (pf 25).toInt := e217
  have e218 : (pf207 26).toInt = (pf 26).toInt := e218
  have e219 : MkN na ma na208 ma209 v211 (28 : Int32) (pf 11) := e219
  obtain ⟨qb2201, qb2202, qb2203, qb2204⟩ := tk_eq (ta := ta) (x := (pf207 11)) (y := (pf 11)) (by omega)
  have hmk_v211 := e219
  have hfm_v211 := MkN.frb (b := v211.toInt) hmk_v211 (by omega) (by omega)
  have hfb := hfb.tr hfm_v211 (by omega)
  have hf_14_v211 := hmk_v211.2.1 (by decide) (by decide)
  have hf_15_v211 := hmk_v211.2.2.1
  have hf_17_v211 := hmk_v211.2.2.2.2.1
  have hf_18_v211 := hmk_v211.2.2.2.2.2.1
  have hf_21_v211 := hmk_v211.2.2.2.2.2.2.2.2.1
  clear hmk_v211 hfm_v211
  have hw : pw D A s.heap H locs [wdP cs h r g tf ta pf207 na208 ma209 wa cf ca ef ea xf xa] := hw
  have lv211 := Int32.le_toInt v211
  have uv211 := Int32.toInt_lt v211
  refine lv_istore_n (lv' := [(1, .int v211), (0, .ref h)]) S.x S.b d_Mpg_switching_10 rfl hl (by decide) rfl (fun ls hl => ?_)
  refine lv_aload_n S.x S.b d_Mpg_switching_11 rfl (lv_at hl 1 rfl) ?_
  refine th_callv (ps0 := [wdP cs h r g tf ta pf na ma wa cf ca ef ea xf xa]) (pr := []) (pcs := [wdP cs h r g tf ta pf207 na208 ma209 wa cf ca ef ea xf xa]) (As := []) (rest := []) (c_mp_opens l D cs h r g tf ta na208 ma209 wa cf ca ef ea xf xa pf207   (show 0 ≤ (pf207 11).toInt from by omega) (show (pf207 11).toInt < (tf 6).toInt from by omega) (show (tf 6).toInt ≤ 2049 from by omega) (show (pf207 11).toInt + 1 < (tf 6).toInt from by omega) (show 0 ≤ (pf207 12).toInt from by omega) (show (pf207 12).toInt ≤ 60 from by omega) hlf htk) S hT hw (oX_call (P := (fun A U H => (oN A U H) ∧ (oP A g U H))) (pr := []) (oG_and oG_N oG_P) hw hA ⟨hN, hP⟩) (px_recv hT hw 0 0 rfl rfl rfl) m11_238 m11_235 m11_237 ms_9_1 m1_21 q_Mpg_opens ⟨show 7 + 1 ≤ (8 * lv + 26) from by omega, show 8 + (1 + 11) + 150 ≤ (220 * lv + 1200) from by omega⟩ hl.1 rfl (Nat.le_of_ble_eq_true rfl) d_Mpg_switching_12 ⟨Nat.le_of_ble_eq_true rfl, Nat.le_of_ble_eq_true rfl⟩ hne hlk hA hAe (fun o t h => Or.inr h) ?_ (fun p223 H locs hp223 hw => ?_)
  · exact fun p1 H1 locs1 hp hw => by obtain ⟨pq1, pq2, pq3, pq4, rfl, hq1, hq2⟩ := hp; exact ⟨_, ⟨pq1, pq2, pq3, pq4, rfl, hq1, hq2⟩, hw⟩
  obtain ⟨pf222, rfl, e225, e226, e227, e228, e229, e230, e231, e232, e233, e234⟩ := hp223
  have e225 : (pf222 11).toInt = (pf207 11).toInt + 1 := e225
  have e226 : (pf222 11).toInt < (tf 6).toInt := e226
  have e227 : bp ta (pf207 11) + sz ta (pf207 11) ≤ bp ta (pf222 11) := e227
  have e228 : 1 ≤ sz ta (pf207 11) := e228
  have e229 : (pf222 12).toInt = (pf207 12).toInt + 1 := e229
  have e230 : (pf207 12).toInt < 60 := e230
  have e231 : (pf222 13).toInt = (pf207 13).toInt := e231
  have e232 : (pf222 24).toInt = (pf207 24).toInt := e232
  have e233 : (pf222 25).toInt = (pf207 25).toInt := e233
  have e234 : (pf222 26).toInt = (pf207 26).toInt := e234
  have hw : pw D A s.heap H locs [wdP cs h r g tf ta pf222 na208 ma209 wa cf ca ef ea xf xa] := hw
  refine lv_aload_n S.x S.b d_Mpg_switching_15 rfl (lv_at hl 1 rfl) ?_
  refine px_get S k_Mpg hT hw 0 0 17 (v := .ref (r 17)) rfl rfl rfl (by decide) m10_1 d_Mpg_switching_16 ?_
  refine lv_iload_n S.x S.b d_Mpg_switching_19 rfl (lv_at hl 0 rfl) ?_
  refine lv_aload_n S.x S.b d_Mpg_switching_20 rfl (lv_at hl 1 rfl) ?_
  refine th_calli (ps0 := [wdP cs h r g tf ta pf na ma wa cf ca ef ea xf xa]) (pr := []) (pcs := [wdP cs h r g tf ta pf222 na208 ma209 wa cf ca ef ea xf xa]) (As := []) (rest := [.int v211, .ref (r 17)]) (c_mp_inParentheses l D cs h r g tf ta cf ca ef ea xf xa pf222 na208 ma209 wa  lv (show 0 ≤ (pf222 11).toInt from by omega) (show (pf222 11).toInt < (tf 6).toInt from by omega) (show (tf 6).toInt ≤ 2049 from by omega) (show 0 ≤ (pf222 12).toInt from by omega) (show (pf222 12).toInt ≤ 60 from by omega) (show 0 ≤ (pf222 13).toInt from by omega) (show (pf222 13).toInt ≤ (pf222 11).toInt + 10 from by omega) (show 0 ≤ (pf222 26).toInt from by omega) (show (pf222 26).toInt ≤ (pf222 12).toInt from by omega) (show 61 ≤ (pf222 12).toInt + (lv : Int) from by omega) (show lv ≤ 61 from by omega) hlf htk) S hT hw (oX_call (P := (fun A U H => (oN A U H) ∧ (oP A g U H))) (pr := []) (oG_and oG_N oG_P) hw hA ⟨hN, hP⟩) (px_recv hT hw 0 0 rfl rfl rfl) m12_129 m12_126 m12_128 ms_11_1 m1_21 q_Mpg_inParentheses ⟨show (8 * lv + 22) + 1 ≤ (8 * lv + 26) from by omega, show 8 + (2 + 11) + (220 * lv + 1000) ≤ (220 * lv + 1200) from by omega⟩ hl.1 rfl (Nat.le_of_ble_eq_true rfl) d_Mpg_switching_21 ⟨Nat.le_of_ble_eq_true rfl, Nat.le_of_ble_eq_true rfl⟩ hne hlk hA hAe (fun o t h => Or.inr h) ?_ (fun v244 p243 H locs hp243 hw => ?_)
  · exact fun p1 H1 locs1 hp hw => by obtain ⟨pq1, pq2, pq3, pq4, rfl, hq1, hq2⟩ := hp; exact ⟨_, ⟨pq1, pq2, pq3, pq4, rfl, hq1, hq2⟩, hw⟩
  obtain ⟨pf239, na240, ma241, wa242, rfl, e245, e246, e247, e248, e249, e250, e251, e252, e253, e254, e255, e256⟩ := hp243
  have e245 : (pf222 11).toInt + 1 ≤ (pf239 11).toInt := e245
  have e246 : (pf239 11).toInt < (tf 6).toInt := e246
  have e247 : (pf222 13).toInt + 1 ≤ (pf239 13).toInt := e247
  have e248 : (pf239 13).toInt - (pf222 13).toInt ≤ (pf239 11).toInt - (pf222 11).toInt := e248
  have e249 : bp ta (pf222 11) + 1 ≤ bp ta (pf239 11) := e249
  have e250 : (pf239 12).toInt = (pf222 12).toInt := e250
  have e251 : (pf239 24).toInt = (pf222 24).toInt := e251
  have e252 : (pf239 25).toInt = (pf222 25).toInt := e252
  have e253 : (pf239 26).toInt = (pf222 26).toInt := e253
  have e254 : FrB (pf222 13).toInt na208 ma209 na240 ma241 := e254
  have hf_14_v211 := (fb_n e254 (by omega) (by omega)).trans hf_14_v211
  have hf_15_v211 := (fb_n e254 (by omega) (by omega)).trans hf_15_v211
  have hf_17_v211 := (fb_n e254 (by omega) (by omega)).trans hf_17_v211
  have hf_18_v211 := (fb_m e254 (by omega) (by omega)).trans hf_18_v211
  have hf_21_v211 := (fb_n e254 (by omega) (by omega)).trans hf_21_v211
  have hfb := hfb.tr e254 (by omega)
  have e255 : FrW (pf222 26).toInt wa wa242 := e255
  have hfw := hfw.tr e255 (by omega)
  have e256 : ExR ta (tf 6).toInt na240 ma241 v244 (pf222 13).toInt (pf239 13).toInt (3 * (bp ta (pf239 11) - bp ta (pf222 11)) - 6) (pf222 12).toInt := e256
  have ht_v244 := e256
  have hn_ht_v244 := ht_v244.num
  have hw : pw D A s.heap H locs [wdP cs h r g tf ta pf239 na240 ma241 wa242 cf ca ef ea xf xa] := hw
  have lv244 := Int32.le_toInt v244
  have uv244 := Int32.toInt_lt v244
  refine px_iast S hT hw 0 13 (n := 2100) (f := (na240 17)) (x := v211) (y := v244) rfl gp_17 (vp_in_iff.mpr (by constructor <;> omega)) d_Mpg_switching_24 (w' := wdP cs h r g tf ta pf239 (va_up na240 17 (upd (na240 17) v211.toNatClampNeg v244)) ma241 wa242 cf ca ef ea xf xa) (ps' := [wdP cs h r g tf ta pf239 (va_up na240 17 (upd (na240 17) v211.toNatClampNeg v244)) ma241 wa242 cf ca ef ea xf xa]) sp_17 rfl (fun H locs hw => ?_)
  obtain ⟨na257, hu_na257⟩ : ∃ y : Nat → Nat → Int32, y = va_up na240 17 (upd (na240 17) v211.toNatClampNeg v244) := ⟨_, rfl⟩
  have hw : pw D A s.heap _ _ [wdP cs h r g tf ta pf239 na257 ma241 wa242 cf ca ef ea xf xa] := (by rw [hu_na257]; exact hw)
  obtain ⟨ht_v244, hdq_v244⟩ := ht_v244.ag (ag_n hu_na257 (by omega) (by omega)) (by omega)
  have hn_ht_v244 := ht_v244.num
  have hf_14_v211 := (fl_n hu_na257 (by decide)).trans hf_14_v211
  have hf_15_v211 := (fl_n hu_na257 (by decide)).trans hf_15_v211
  have hf_21_v211 := (fl_n hu_na257 (by decide)).trans hf_21_v211
  have hf_17_v211 : na257 17 v211.toNatClampNeg = v244 := (by rw [hu_na257, va_up_s, pk_us])
  have hfb : FrB (pf 13).toInt na ma na257 ma241 := (by rw [hu_na257]; exact FrB.un hfb (by omega) (by omega))
  refine lv_aload_n S.x S.b d_Mpg_switching_25 rfl (lv_at hl 1 rfl) ?_
  obtain ⟨sk258, hRsk258, st259, sb260, hSsk258⟩ := oP_lit hP (k := 91) (tx := "{") (n := 1) (List.mem_of_getElem? (i := 37) rfl)
  refine va_ldcS S.x S.b S.own hRsk258 d_Mpg_switching_26 ?_
  refine th_callv (ps0 := [wdP cs h r g tf ta pf na ma wa cf ca ef ea xf xa]) (pr := []) (pcs := [wdP cs h r g tf ta pf239 na257 ma241 wa242 cf ca ef ea xf xa]) (As := [.ref sk258]) (rest := []) (c_mp_opensMark l D cs sk258 1 h r g tf ta na257 ma241 wa242 cf ca ef ea xf xa pf239   (show 0 ≤ (pf239 11).toInt from by omega) (show (pf239 11).toInt < (tf 6).toInt from by omega) (show (tf 6).toInt ≤ 2049 from by omega) (show 0 ≤ (pf239 12).toInt from by omega) (show (pf239 12).toInt ≤ 60 from by omega) (show 1 ≤ 100 from by omega) hlf htk) S hT hw (oX_call (P := (fun A U H => (oN A U H) ∧ (oP A g U H) ∧ (StS A sk258 1 U H))) (pr := []) (oG_and oG_N (oG_and oG_P oG_Q)) hw hA ⟨hN, hP, ⟨_, _, hSsk258⟩⟩) (px_recv hT hw 0 0 rfl rfl rfl) m11_213 m11_210 m11_212 ms_8_13 m1_21 q_Mpg_opensMark ⟨show 8 + 1 ≤ (8 * lv + 26) from by omega, show 8 + (2 + 11) + 240 ≤ (220 * lv + 1200) from by omega⟩ hl.1 rfl (Nat.le_of_ble_eq_true rfl) d_Mpg_switching_28 ⟨Nat.le_of_ble_eq_true rfl, Nat.le_of_ble_eq_true rfl⟩ hne hlk hA hAe (fun o t h => Or.inr h) ?_ (fun p263 H locs hp263 hw => ?_)
  · exact fun p1 H1 locs1 hp hw => by obtain ⟨pq1, pq2, pq3, pq4, rfl, hq1, hq2⟩ := hp; exact ⟨_, ⟨pq1, pq2, pq3, pq4, rfl, hq1, hq2⟩, hw⟩
  obtain ⟨pf262, rfl, e265, e266, e267, e268, e269, e270, e271, e272, e273, e274⟩ := hp263
  have e265 : (pf262 11).toInt = (pf239 11).toInt + 1 := e265
  have e266 : (pf262 11).toInt < (tf 6).toInt := e266
  have e267 : bp ta (pf239 11) + sz ta (pf239 11) ≤ bp ta (pf262 11) := e267
  have e268 : 1 ≤ sz ta (pf239 11) := e268
  have e269 : (pf262 12).toInt = (pf239 12).toInt + 1 := e269
  have e270 : (pf239 12).toInt < 60 := e270
  have e271 : (pf262 13).toInt = (pf239 13).toInt := e271
  have e272 : (pf262 24).toInt = (pf239 24).toInt := e272
  have e273 : (pf262 25).toInt = (pf239 25).toInt := e273
  have e274 : (pf262 26).toInt = (pf239 26).toInt := e274
  have hw : pw D A s.heap H locs [wdP cs h r g tf ta pf262 na257 ma241 wa242 cf ca ef ea xf xa] := hw
  refine lv_iconst (v := (-1)) S.x S.b d_Mpg_switching_31 (by decide) ?_
  refine lv_istore_n (lv' := [(2, .int (-1)), (1, .int v211), (0, .ref h)]) S.x S.b d_Mpg_switching_32 rfl hl (by decide) rfl (fun ls hl => ?_)
  exact J33 (((tf 6).toInt - (pf262 11).toInt).toNat + 1) pf262 na257 ma241 wa242 v211 (-1) _ _ ls (show (pf262 24).toInt = (pf 24).toInt from by omega) (show (pf262 25).toInt = (pf 25).toInt from by omega) (show (pf262 26).toInt = (pf 26).toInt from by omega) (show (pf262 12).toInt = (pf 12).toInt + 2 from by omega) (show (pf262 12).toInt ≤ 60 from by omega) (show (pf 11).toInt + 2 ≤ (pf262 11).toInt from by omega) (show (pf262 11).toInt < (tf 6).toInt from by omega) (show v211.toInt = (pf 13).toInt from by omega) (show v211.toInt < (pf262 13).toInt from by omega) (show (pf262 13).toInt - (pf 13).toInt ≤ (pf262 11).toInt - (pf 11).toInt from by omega) (show bp ta (pf 11) + 2 ≤ bp ta (pf262 11) from by omega) (show (-1 : Int) = -1 ∨ v211.toInt + 1 ≤ (-1 : Int) from by omega) (show (-1 : Int) < (pf262 13).toInt from by omega) (show FrB (pf 13).toInt na ma na257 ma241 from hfb) (show FrW (pf 26).toInt wa wa242 from hfw) (show NdF (tf 6).toInt na257 v211 28 (pf 11) from ⟨by omega, hf_14_v211, hf_15_v211, ⟨by omega, by omega⟩, hf_21_v211⟩) (show SwV ta (tf 6).toInt na257 ma241 v211 (-1) (pf262 13).toInt (3 * (bp ta (pf262 11) - bp ta (pf 11)) - 3) (198 - (pf 12).toInt) from ⟨_, _, _, _, 0, hf_17_v211, hf_18_v211, by omega, by omega, (VlV.le (exr_vl ht_v244 (by omega)) (by omega) (Int.le_refl _) (Int.le_refl _) (by omega)), (Or.inl ⟨by decide, by decide, by omega⟩), by omega, by omega, by omega⟩) (show (tf 6).toInt - (pf262 11).toInt < (((((tf 6).toInt - (pf262 11).toInt).toNat + 1 : Nat) : Int) : Int) from by omega) hw (lv_sub hl [2, 1, 0] rfl)
