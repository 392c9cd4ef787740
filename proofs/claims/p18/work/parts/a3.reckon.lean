theorem m10_37 : Cond.fieldLink "HomeSystemModel$Program" 602 "HomeSystemModel$Program" "badK" "Z" ∈ AL := AL_10 (List.mem_of_getElem? (i := 37) rfl) rfl
abbrev b_Mpg_two : ByteArray := prog_16_method_85_code
def y_Mpg_two : MethodName := ⟨"HomeSystemModel$Program", "two", "(III)I"⟩
theorem d_Mpg_two_0 : decode b_Mpg_two 0 = .ok (.aload_n 0, 1) := by decide +kernel
theorem d_Mpg_two_1 : decode b_Mpg_two 1 = .ok (.getfield 133, 3) := by decide +kernel
theorem d_Mpg_two_4 : decode b_Mpg_two 4 = .ok (.aload_n 0, 1) := by decide +kernel
theorem d_Mpg_two_5 : decode b_Mpg_two 5 = .ok (.getfield 204, 3) := by decide +kernel
theorem d_Mpg_two_8 : decode b_Mpg_two 8 = .ok (.iload_n 1, 1) := by decide +kernel
theorem d_Mpg_two_9 : decode b_Mpg_two 9 = .ok (.iaload, 1) := by decide +kernel
theorem d_Mpg_two_10 : decode b_Mpg_two 10 = .ok (.aaload, 1) := by decide +kernel
theorem d_Mpg_two_11 : decode b_Mpg_two 11 = .ok (.astore 4, 2) := by decide +kernel
theorem d_Mpg_two_13 : decode b_Mpg_two 13 = .ok (.aload 4, 2) := by decide +kernel
theorem d_Mpg_two_15 : decode b_Mpg_two 15 = .ok (.invokevirtual 307, 3) := by decide +kernel
theorem d_Mpg_two_18 : decode b_Mpg_two 18 = .ok (.iconst 2, 1) := by decide +kernel
theorem d_Mpg_two_19 : decode b_Mpg_two 19 = .ok (.if_icmp .ne 127, 3) := by decide +kernel
theorem d_Mpg_two_22 : decode b_Mpg_two 22 = .ok (.aload 4, 2) := by decide +kernel
theorem d_Mpg_two_24 : decode b_Mpg_two 24 = .ok (.ldc 71, 2) := by decide +kernel
theorem d_Mpg_two_26 : decode b_Mpg_two 26 = .ok (.invokevirtual 356, 3) := by decide +kernel
theorem d_Mpg_two_29 : decode b_Mpg_two 29 = .ok (.ifCond .eq 16, 3) := by decide +kernel
theorem d_Mpg_two_32 : decode b_Mpg_two 32 = .ok (.iload_n 2, 1) := by decide +kernel
theorem d_Mpg_two_33 : decode b_Mpg_two 33 = .ok (.iload_n 3, 1) := by decide +kernel
theorem d_Mpg_two_34 : decode b_Mpg_two 34 = .ok (.if_icmp .ne 7, 3) := by decide +kernel
theorem d_Mpg_two_37 : decode b_Mpg_two 37 = .ok (.iconst 1, 1) := by decide +kernel
theorem d_Mpg_two_38 : decode b_Mpg_two 38 = .ok (.goto 63, 3) := by decide +kernel
theorem d_Mpg_two_41 : decode b_Mpg_two 41 = .ok (.iconst 0, 1) := by decide +kernel
theorem d_Mpg_two_42 : decode b_Mpg_two 42 = .ok (.goto 59, 3) := by decide +kernel
theorem d_Mpg_two_45 : decode b_Mpg_two 45 = .ok (.aload 4, 2) := by decide +kernel
theorem d_Mpg_two_47 : decode b_Mpg_two 47 = .ok (.ldc 73, 2) := by decide +kernel
theorem d_Mpg_two_49 : decode b_Mpg_two 49 = .ok (.invokevirtual 356, 3) := by decide +kernel
theorem d_Mpg_two_52 : decode b_Mpg_two 52 = .ok (.ifCond .eq 16, 3) := by decide +kernel
theorem d_Mpg_two_55 : decode b_Mpg_two 55 = .ok (.iload_n 2, 1) := by decide +kernel
theorem d_Mpg_two_56 : decode b_Mpg_two 56 = .ok (.iload_n 3, 1) := by decide +kernel
theorem d_Mpg_two_57 : decode b_Mpg_two 57 = .ok (.if_icmp .eq 7, 3) := by decide +kernel
theorem d_Mpg_two_60 : decode b_Mpg_two 60 = .ok (.iconst 1, 1) := by decide +kernel
theorem d_Mpg_two_61 : decode b_Mpg_two 61 = .ok (.goto 40, 3) := by decide +kernel
theorem d_Mpg_two_64 : decode b_Mpg_two 64 = .ok (.iconst 0, 1) := by decide +kernel
theorem d_Mpg_two_65 : decode b_Mpg_two 65 = .ok (.goto 36, 3) := by decide +kernel
theorem d_Mpg_two_68 : decode b_Mpg_two 68 = .ok (.aload 4, 2) := by decide +kernel
theorem d_Mpg_two_70 : decode b_Mpg_two 70 = .ok (.ldc 75, 2) := by decide +kernel
theorem d_Mpg_two_72 : decode b_Mpg_two 72 = .ok (.invokevirtual 356, 3) := by decide +kernel
theorem d_Mpg_two_75 : decode b_Mpg_two 75 = .ok (.ifCond .eq 16, 3) := by decide +kernel
theorem d_Mpg_two_78 : decode b_Mpg_two 78 = .ok (.iload_n 2, 1) := by decide +kernel
theorem d_Mpg_two_79 : decode b_Mpg_two 79 = .ok (.iload_n 3, 1) := by decide +kernel
theorem d_Mpg_two_80 : decode b_Mpg_two 80 = .ok (.if_icmp .gt 7, 3) := by decide +kernel
theorem d_Mpg_two_83 : decode b_Mpg_two 83 = .ok (.iconst 1, 1) := by decide +kernel
theorem d_Mpg_two_84 : decode b_Mpg_two 84 = .ok (.goto 17, 3) := by decide +kernel
theorem d_Mpg_two_87 : decode b_Mpg_two 87 = .ok (.iconst 0, 1) := by decide +kernel
theorem d_Mpg_two_88 : decode b_Mpg_two 88 = .ok (.goto 13, 3) := by decide +kernel
theorem d_Mpg_two_91 : decode b_Mpg_two 91 = .ok (.iload_n 2, 1) := by decide +kernel
theorem d_Mpg_two_92 : decode b_Mpg_two 92 = .ok (.iload_n 3, 1) := by decide +kernel
theorem d_Mpg_two_93 : decode b_Mpg_two 93 = .ok (.if_icmp .lt 7, 3) := by decide +kernel
theorem d_Mpg_two_96 : decode b_Mpg_two 96 = .ok (.iconst 1, 1) := by decide +kernel
theorem d_Mpg_two_97 : decode b_Mpg_two 97 = .ok (.goto 4, 3) := by decide +kernel
theorem d_Mpg_two_100 : decode b_Mpg_two 100 = .ok (.iconst 0, 1) := by decide +kernel
theorem d_Mpg_two_101 : decode b_Mpg_two 101 = .ok (.istore 5, 2) := by decide +kernel
theorem d_Mpg_two_103 : decode b_Mpg_two 103 = .ok (.aload 4, 2) := by decide +kernel
theorem d_Mpg_two_105 : decode b_Mpg_two 105 = .ok (.ldc 79, 2) := by decide +kernel
theorem d_Mpg_two_107 : decode b_Mpg_two 107 = .ok (.invokevirtual 356, 3) := by decide +kernel
theorem d_Mpg_two_110 : decode b_Mpg_two 110 = .ok (.ifCond .eq 9, 3) := by decide +kernel
theorem d_Mpg_two_113 : decode b_Mpg_two 113 = .ok (.iload_n 2, 1) := by decide +kernel
theorem d_Mpg_two_114 : decode b_Mpg_two 114 = .ok (.iload_n 3, 1) := by decide +kernel
theorem d_Mpg_two_115 : decode b_Mpg_two 115 = .ok (.ishl, 1) := by decide +kernel
theorem d_Mpg_two_116 : decode b_Mpg_two 116 = .ok (.goto 29, 3) := by decide +kernel
theorem d_Mpg_two_119 : decode b_Mpg_two 119 = .ok (.aload 4, 2) := by decide +kernel
theorem d_Mpg_two_121 : decode b_Mpg_two 121 = .ok (.ldc 81, 2) := by decide +kernel
theorem d_Mpg_two_123 : decode b_Mpg_two 123 = .ok (.invokevirtual 356, 3) := by decide +kernel
theorem d_Mpg_two_126 : decode b_Mpg_two 126 = .ok (.ifCond .eq 9, 3) := by decide +kernel
theorem d_Mpg_two_129 : decode b_Mpg_two 129 = .ok (.iload_n 2, 1) := by decide +kernel
theorem d_Mpg_two_130 : decode b_Mpg_two 130 = .ok (.iload_n 3, 1) := by decide +kernel
theorem d_Mpg_two_131 : decode b_Mpg_two 131 = .ok (.ishr, 1) := by decide +kernel
theorem d_Mpg_two_132 : decode b_Mpg_two 132 = .ok (.goto 13, 3) := by decide +kernel
theorem d_Mpg_two_135 : decode b_Mpg_two 135 = .ok (.iload 5, 2) := by decide +kernel
theorem d_Mpg_two_137 : decode b_Mpg_two 137 = .ok (.ifCond .eq 7, 3) := by decide +kernel
theorem d_Mpg_two_140 : decode b_Mpg_two 140 = .ok (.iconst 1, 1) := by decide +kernel
theorem d_Mpg_two_141 : decode b_Mpg_two 141 = .ok (.goto 4, 3) := by decide +kernel
theorem d_Mpg_two_144 : decode b_Mpg_two 144 = .ok (.iconst 0, 1) := by decide +kernel
theorem d_Mpg_two_145 : decode b_Mpg_two 145 = .ok (.ireturn, 1) := by decide +kernel
theorem d_Mpg_two_146 : decode b_Mpg_two 146 = .ok (.aload 4, 2) := by decide +kernel
theorem d_Mpg_two_148 : decode b_Mpg_two 148 = .ok (.iconst 0, 1) := by decide +kernel
theorem d_Mpg_two_149 : decode b_Mpg_two 149 = .ok (.invokevirtual 310, 3) := by decide +kernel
theorem d_Mpg_two_152 : decode b_Mpg_two 152 = .ok (.lookupswitch 122 #[(38, 84), (42, 118), (43, 110), (45, 114), (60, 88), (62, 99), (94, 80), (124, 76)], 76) := by decide +kernel
theorem d_Mpg_two_228 : decode b_Mpg_two 228 = .ok (.iload_n 2, 1) := by decide +kernel
theorem d_Mpg_two_229 : decode b_Mpg_two 229 = .ok (.iload_n 3, 1) := by decide +kernel
theorem d_Mpg_two_230 : decode b_Mpg_two 230 = .ok (.ior, 1) := by decide +kernel
theorem d_Mpg_two_231 : decode b_Mpg_two 231 = .ok (.ireturn, 1) := by decide +kernel
theorem d_Mpg_two_232 : decode b_Mpg_two 232 = .ok (.iload_n 2, 1) := by decide +kernel
theorem d_Mpg_two_233 : decode b_Mpg_two 233 = .ok (.iload_n 3, 1) := by decide +kernel
theorem d_Mpg_two_234 : decode b_Mpg_two 234 = .ok (.ixor, 1) := by decide +kernel
theorem d_Mpg_two_235 : decode b_Mpg_two 235 = .ok (.ireturn, 1) := by decide +kernel
theorem d_Mpg_two_236 : decode b_Mpg_two 236 = .ok (.iload_n 2, 1) := by decide +kernel
theorem d_Mpg_two_237 : decode b_Mpg_two 237 = .ok (.iload_n 3, 1) := by decide +kernel
theorem d_Mpg_two_238 : decode b_Mpg_two 238 = .ok (.iand, 1) := by decide +kernel
theorem d_Mpg_two_239 : decode b_Mpg_two 239 = .ok (.ireturn, 1) := by decide +kernel
theorem d_Mpg_two_240 : decode b_Mpg_two 240 = .ok (.iload_n 2, 1) := by decide +kernel
theorem d_Mpg_two_241 : decode b_Mpg_two 241 = .ok (.iload_n 3, 1) := by decide +kernel
theorem d_Mpg_two_242 : decode b_Mpg_two 242 = .ok (.if_icmp .ge 7, 3) := by decide +kernel
theorem d_Mpg_two_245 : decode b_Mpg_two 245 = .ok (.iconst 1, 1) := by decide +kernel
theorem d_Mpg_two_246 : decode b_Mpg_two 246 = .ok (.goto 4, 3) := by decide +kernel
theorem d_Mpg_two_249 : decode b_Mpg_two 249 = .ok (.iconst 0, 1) := by decide +kernel
theorem d_Mpg_two_250 : decode b_Mpg_two 250 = .ok (.ireturn, 1) := by decide +kernel
theorem d_Mpg_two_251 : decode b_Mpg_two 251 = .ok (.iload_n 2, 1) := by decide +kernel
theorem d_Mpg_two_252 : decode b_Mpg_two 252 = .ok (.iload_n 3, 1) := by decide +kernel
theorem d_Mpg_two_253 : decode b_Mpg_two 253 = .ok (.if_icmp .le 7, 3) := by decide +kernel
theorem d_Mpg_two_256 : decode b_Mpg_two 256 = .ok (.iconst 1, 1) := by decide +kernel
theorem d_Mpg_two_257 : decode b_Mpg_two 257 = .ok (.goto 4, 3) := by decide +kernel
theorem d_Mpg_two_260 : decode b_Mpg_two 260 = .ok (.iconst 0, 1) := by decide +kernel
theorem d_Mpg_two_261 : decode b_Mpg_two 261 = .ok (.ireturn, 1) := by decide +kernel
theorem d_Mpg_two_262 : decode b_Mpg_two 262 = .ok (.iload_n 2, 1) := by decide +kernel
theorem d_Mpg_two_263 : decode b_Mpg_two 263 = .ok (.iload_n 3, 1) := by decide +kernel
theorem d_Mpg_two_264 : decode b_Mpg_two 264 = .ok (.iadd, 1) := by decide +kernel
theorem d_Mpg_two_265 : decode b_Mpg_two 265 = .ok (.ireturn, 1) := by decide +kernel
theorem d_Mpg_two_266 : decode b_Mpg_two 266 = .ok (.iload_n 2, 1) := by decide +kernel
theorem d_Mpg_two_267 : decode b_Mpg_two 267 = .ok (.iload_n 3, 1) := by decide +kernel
theorem d_Mpg_two_268 : decode b_Mpg_two 268 = .ok (.isub, 1) := by decide +kernel
theorem d_Mpg_two_269 : decode b_Mpg_two 269 = .ok (.ireturn, 1) := by decide +kernel
theorem d_Mpg_two_270 : decode b_Mpg_two 270 = .ok (.iload_n 2, 1) := by decide +kernel
theorem d_Mpg_two_271 : decode b_Mpg_two 271 = .ok (.iload_n 3, 1) := by decide +kernel
theorem d_Mpg_two_272 : decode b_Mpg_two 272 = .ok (.imul, 1) := by decide +kernel
theorem d_Mpg_two_273 : decode b_Mpg_two 273 = .ok (.ireturn, 1) := by decide +kernel
theorem d_Mpg_two_274 : decode b_Mpg_two 274 = .ok (.aload_n 0, 1) := by decide +kernel
theorem d_Mpg_two_275 : decode b_Mpg_two 275 = .ok (.aload_n 0, 1) := by decide +kernel
theorem d_Mpg_two_276 : decode b_Mpg_two 276 = .ok (.getfield 602, 3) := by decide +kernel
theorem d_Mpg_two_279 : decode b_Mpg_two 279 = .ok (.ifCond .ne 7, 3) := by decide +kernel
theorem d_Mpg_two_282 : decode b_Mpg_two 282 = .ok (.iload_n 3, 1) := by decide +kernel
theorem d_Mpg_two_283 : decode b_Mpg_two 283 = .ok (.ifCond .ne 7, 3) := by decide +kernel
theorem d_Mpg_two_286 : decode b_Mpg_two 286 = .ok (.iconst 1, 1) := by decide +kernel
theorem d_Mpg_two_287 : decode b_Mpg_two 287 = .ok (.goto 4, 3) := by decide +kernel
theorem d_Mpg_two_290 : decode b_Mpg_two 290 = .ok (.iconst 0, 1) := by decide +kernel
theorem d_Mpg_two_291 : decode b_Mpg_two 291 = .ok (.putfield 602, 3) := by decide +kernel
theorem d_Mpg_two_294 : decode b_Mpg_two 294 = .ok (.iload_n 3, 1) := by decide +kernel
theorem d_Mpg_two_295 : decode b_Mpg_two 295 = .ok (.ifCond .ne 7, 3) := by decide +kernel
theorem d_Mpg_two_298 : decode b_Mpg_two 298 = .ok (.iconst 0, 1) := by decide +kernel
theorem d_Mpg_two_299 : decode b_Mpg_two 299 = .ok (.goto 23, 3) := by decide +kernel
theorem d_Mpg_two_302 : decode b_Mpg_two 302 = .ok (.aload 4, 2) := by decide +kernel
theorem d_Mpg_two_304 : decode b_Mpg_two 304 = .ok (.iconst 0, 1) := by decide +kernel
theorem d_Mpg_two_305 : decode b_Mpg_two 305 = .ok (.invokevirtual 310, 3) := by decide +kernel
theorem d_Mpg_two_308 : decode b_Mpg_two 308 = .ok (.bipush 47, 2) := by decide +kernel
theorem d_Mpg_two_310 : decode b_Mpg_two 310 = .ok (.if_icmp .ne 9, 3) := by decide +kernel
theorem d_Mpg_two_313 : decode b_Mpg_two 313 = .ok (.iload_n 2, 1) := by decide +kernel
theorem d_Mpg_two_314 : decode b_Mpg_two 314 = .ok (.iload_n 3, 1) := by decide +kernel
theorem d_Mpg_two_315 : decode b_Mpg_two 315 = .ok (.idiv, 1) := by decide +kernel
theorem d_Mpg_two_316 : decode b_Mpg_two 316 = .ok (.goto 6, 3) := by decide +kernel
theorem d_Mpg_two_319 : decode b_Mpg_two 319 = .ok (.iload_n 2, 1) := by decide +kernel
theorem d_Mpg_two_320 : decode b_Mpg_two 320 = .ok (.iload_n 3, 1) := by decide +kernel
theorem d_Mpg_two_321 : decode b_Mpg_two 321 = .ok (.irem, 1) := by decide +kernel
theorem d_Mpg_two_322 : decode b_Mpg_two 322 = .ok (.ireturn, 1) := by decide +kernel
theorem q_Mpg_two : px_y y_Mpg_two 3 := by unfold px_y; decide +kernel
set_option maxHeartbeats 4000000 in
set_option maxRecDepth 100000 in
theorem c_mp_two (l : Launch) (D : va_G) (cs : Nat → ClassId) (h : Nat) (r : Nat → Nat) (g : Nat → Nat → Option Nat) (tf : Nat → Int32) (ta : Nat → Nat → Int32) (pf : Nat → Int32) (na : Nat → Nat → Int32) (ma : Nat → Nat → Int32) (wa : Nat → Nat → Int32) (ca : Nat → Nat → Int32) (ef : Nat → Int32) (ea : Nat → Nat → Int32) (xf : Nat → Int32) (xa : Nat → Nat → Int32) (cf : Nat → Int32) (p0 p1 p2 : Int32)  (g0 : 0 ≤ p0.toInt) (g1 : p0.toInt < (tf 6).toInt) (g2 : (tf 6).toInt ≤ 2049) (g3 : so ta p0 = 5) (htk : TkI tf ta) (hwr : WrV cf (tf 6).toInt) : MetI l y_Mpg_two b_Mpg_two 6 (.int) D cs 4 170 (0) (0) [.ref h, .int p0, .int p1, .int p2] [wdP cs h r g tf ta pf na ma wa cf ca ef ea xf xa] (oX (fun A U H => (oP A g U H)) [wdP cs h r g tf ta pf na ma wa cf ca ef ea xf xa]) (fun v ps => ∃ (cf' : Nat → Int32), (ps = [wdP cs h r g tf ta pf na ma wa cf' ca ef ea xf xa]) ∧ (KpE cf cf') ∧ (WrV cf' (tf 6).toInt) ∧ ((cf' 33).toInt = (cf 33).toInt) ∧ ((cf' 38).toInt = (cf 38).toInt) ∧ ((cf' 48).toInt = (cf 48).toInt) ∧ ((cf' 47).toInt = (cf 47).toInt) ∧ (R_mp_two ta p0 p1 p2 cf cf' v)) := by
  refine px_enter (by decide) (Nat.le_of_ble_eq_true rfl) ?_
  intro p e s m below meth c A ls hAe S hr hlk hnm hA hT hX hw hl
  have hl : lv_has ls 6 [(0, .ref h), (1, .int p0), (2, .int p1), (3, .int p2)] := hl
  have lp0 := Int32.le_toInt p0
  have up0 := Int32.toInt_lt p0
  have lp1 := Int32.le_toInt p1
  have up1 := Int32.toInt_lt p1
  have lp2 := Int32.le_toInt p2
  have up2 := Int32.toInt_lt p2
  have cst0 : (0 : Int32).toInt = 0 := rfl
  have cst1 : (1 : Int32).toInt = 1 := rfl
  have cst2 : (2 : Int32).toInt = 2 := rfl
  have cst47 : (47 : Int32).toInt = 47 := rfl
  have hX : (fun A U H => (oP A g U H)) A s s.heap := by rw [hAe]; exact hX
  have hP := hX
  have hZ := hP.1
  have hF0 := hP.2.1
  have hke : KpE cf cf := KpE.rf
  refine lv_aload_n S.x S.b d_Mpg_two_0 rfl (lv_at hl 0 rfl) ?_
  refine gP_1 S hT hw 0 rfl m9_224 d_Mpg_two_1 ?_
  refine lv_aload_n S.x S.b d_Mpg_two_4 rfl (lv_at hl 0 rfl) ?_
  refine gP_10 S hT hw 0 rfl m9_234 d_Mpg_two_5 ?_
  refine lv_iload_n S.x S.b d_Mpg_two_8 rfl (lv_at hl 1 rfl) ?_
  refine px_iald S hT hw 0 9 (n := 2060) (f := (ta 10)) rfl gp_10 (x := p0) (vp_in_iff.mpr (by first | exact oz_846323bf3a g0 g1 g2 | (constructor <;> omega))) d_Mpg_two_9 ?_
  refine lv_topi (fun z1 ez1 => ?_)
  have lz1 := Int32.le_toInt z1
  have uz1 := Int32.toInt_lt z1
  have wz1 := tk_w5 htk (by omega) (by omega) ez1 (by omega)
  first | have hclsk2 := cl_nat (x := z1) (wz1.1) | (have hclsk2 := cl_nat (x := z1) (by first | exact wz1.1 | omega))
  obtain ⟨sk2, hgsk2, st3, hSsk2⟩ := oP_1B hP (i := z1.toNatClampNeg) (by omega)
  have hmsk2 := len_1 (i := z1.toNatClampNeg) (by omega)
  refine px_aaldS S hT hw 0 2 11 (n := 43) (f := (g 1)) rfl rfl rfl (x := z1) (vp_in_iff.mpr (by first | exact oz_00605904cf hclsk2 wz1.2.1 | (constructor <;> omega))) hgsk2 d_Mpg_two_10 ?_
  refine lv_astore (lv' := [(4, .ref sk2), (0, .ref h), (1, .int p0), (2, .int p1), (3, .int p2)]) S.x S.b d_Mpg_two_11 hl (by decide) rfl (fun ls hl => ?_)
  refine lv_aload S.x S.b d_Mpg_two_13 (lv_at hl 0 rfl) ?_
  refine px_calli (pr := [wdP cs h r g tf ta pf na ma wa cf ca ef ea xf xa]) (px_runV (As := []) (rest := []) S (c_String_length l D cs sk2 st3 (mlen z1.toNatClampNeg) (mby z1.toNatClampNeg)   (show (mlen z1.toNatClampNeg) ≤ 1000000 from by omega) _) hT (pr := [wdP cs h r g tf ta pf na ma wa cf ca ef ea xf xa]) (pcs := []) hw (oX_call (P := (fun A U H => (oZ A U H) ∧ (oS A sk2 st3 (mlen z1.toNatClampNeg) (mby z1.toNatClampNeg) U H))) (pr := [wdP cs h r g tf ta pf na ma wa cf ca ef ea xf xa]) (oG_and oG_Z oG_S) hw hA ⟨hZ, hSsk2⟩) (oS_recv hw hSsk2) m1_58 m11_157 m1_56 m1_57 m1_3 q_String_length ⟨Nat.le_of_ble_eq_true rfl, Nat.le_of_ble_eq_true rfl⟩ hl.1 rfl (Nat.le_of_ble_eq_true rfl) d_Mpg_two_15 ⟨Nat.le_of_ble_eq_true rfl, Nat.le_of_ble_eq_true rfl⟩) hw hA (fun v6 p5 H locs hp5 hw => ?_)
  obtain ⟨rfl, e7, e8⟩ := hp5
  have e7 : v6.toInt = ((mlen z1.toNatClampNeg) : Int) := e7
  have e8 : R_String_length (mlen z1.toNatClampNeg) v6 := e8
  have lv6 := Int32.le_toInt v6
  have uv6 := Int32.toInt_lt v6
  refine lv_iconst (v := 2) S.x S.b d_Mpg_two_18 (by decide) ?_
  refine lv_icmp_ne (tgt := 146) S.x S.b d_Mpg_two_19 (by decide) (fun c9 => ?_) (fun c9 => ?_)
  · have nc9 : ¬ v6.toInt = (2 : Int) := mt (i_eq (x := v6) (y := 2)).mpr c9
    refine lv_aload S.x S.b d_Mpg_two_146 (lv_at hl 0 rfl) ?_
    refine lv_iconst (v := 0) S.x S.b d_Mpg_two_148 (by decide) ?_
    first | refine px_calli (pr := [wdP cs h r g tf ta pf na ma wa cf ca ef ea xf xa]) (px_runV (As := [.int 0]) (rest := []) S (c_String_charAt l D cs sk2 st3 (mlen z1.toNatClampNeg) (mby z1.toNatClampNeg) 0  (show (mlen z1.toNatClampNeg) ≤ 1000000 from by omega) (show 0 ≤ (0 : Int) from oz_5a341f00aa) (show (0 : Int) < ((mlen z1.toNatClampNeg) : Int) from by omega) _) hT (pr := [wdP cs h r g tf ta pf na ma wa cf ca ef ea xf xa]) (pcs := []) hw (oX_call (P := (fun A U H => (oF A U H) ∧ (oZ A U H) ∧ (oS A sk2 st3 (mlen z1.toNatClampNeg) (mby z1.toNatClampNeg) U H))) (pr := [wdP cs h r g tf ta pf na ma wa cf ca ef ea xf xa]) (oG_and oG_F (oG_and oG_Z oG_S)) hw hA ⟨hF0, hZ, hSsk2⟩) (oS_recv hw hSsk2) m1_68 m11_162 m1_66 m1_67 m1_3 q_String_charAt ⟨Nat.le_of_ble_eq_true rfl, Nat.le_of_ble_eq_true rfl⟩ hl.1 rfl (Nat.le_of_ble_eq_true rfl) d_Mpg_two_149 ⟨Nat.le_of_ble_eq_true rfl, Nat.le_of_ble_eq_true rfl⟩) hw hA (fun v12 p11 H locs hp11 hw => ?_) | (refine px_calli (pr := [wdP cs h r g tf ta pf na ma wa cf ca ef ea xf xa]) (px_runV (As := [.int 0]) (rest := []) S (c_String_charAt l D cs sk2 st3 (mlen z1.toNatClampNeg) (mby z1.toNatClampNeg) 0  (show (mlen z1.toNatClampNeg) ≤ 1000000 from by omega) (show 0 ≤ (0 : Int) from by first | exact oz_5a341f00aa | omega) (show (0 : Int) < ((mlen z1.toNatClampNeg) : Int) from by omega) _) hT (pr := [wdP cs h r g tf ta pf na ma wa cf ca ef ea xf xa]) (pcs := []) hw (oX_call (P := (fun A U H => (oF A U H) ∧ (oZ A U H) ∧ (oS A sk2 st3 (mlen z1.toNatClampNeg) (mby z1.toNatClampNeg) U H))) (pr := [wdP cs h r g tf ta pf na ma wa cf ca ef ea xf xa]) (oG_and oG_F (oG_and oG_Z oG_S)) hw hA ⟨hF0, hZ, hSsk2⟩) (oS_recv hw hSsk2) m1_68 m11_162 m1_66 m1_67 m1_3 q_String_charAt ⟨Nat.le_of_ble_eq_true rfl, Nat.le_of_ble_eq_true rfl⟩ hl.1 rfl (Nat.le_of_ble_eq_true rfl) d_Mpg_two_149 ⟨Nat.le_of_ble_eq_true rfl, Nat.le_of_ble_eq_true rfl⟩) hw hA (fun v12 p11 H locs hp11 hw => ?_))
    obtain ⟨rfl, e13, e14⟩ := hp11
    have e13 : narrow .char (.int v12) = .int v12 := e13
    have e14 : R_String_charAt (mby z1.toNatClampNeg) (0 : Int32) v12 := e14
    have lv12 := Int32.le_toInt v12
    have uv12 := Int32.toInt_lt v12
    refine px_lookD S (dt := 274) [38, 42, 43, 45, 60, 62, 94, 124] [(236, [38]), (270, [42]), (262, [43]), (266, [45]), (240, [60]), (251, [62]), (232, [94]), (228, [124])] d_Mpg_two_152 (by decide +kernel) (by decide) (by decide +kernel) (by decide +kernel) ?_ ?_
    · intro hdf_152
      refine lv_aload_n S.x S.b d_Mpg_two_274 rfl (lv_at hl 1 rfl) ?_
      refine lv_aload_n S.x S.b d_Mpg_two_275 rfl (lv_at hl 1 rfl) ?_
      refine gP_46 (v := (cf 46)) S hT hw 0 rfl rfl m10_37 d_Mpg_two_276 ?_
      refine lv_if_ne (tgt := 286) S.x S.b d_Mpg_two_279 (by decide) (fun c16 => ?_) (fun c16 => ?_)
      · have nc16 : ¬ (cf 46).toInt = (0 : Int) := mt (i_eq (x := (cf 46)) (y := 0)).mpr c16
        refine lv_iconst (v := 1) S.x S.b d_Mpg_two_286 (by decide) ?_
        refine lv_goto (tgt := 291) S.x S.b d_Mpg_two_287 (by decide) ?_
        refine pP_46 S hT hw 0 rfl m10_37 rfl rfl rfl d_Mpg_two_291 (ps' := [wdP cs h r g tf ta pf na ma wa (upd cf 46 1) ca ef ea xf xa]) rfl (fun H locs hw => ?_)
        refine lv_iload_n S.x S.b d_Mpg_two_294 rfl (lv_at hl 4 rfl) ?_
        refine lv_if_ne (tgt := 302) S.x S.b d_Mpg_two_295 (by decide) (fun c18 => ?_) (fun c18 => ?_)
        · have nc18 : ¬ p2.toInt = (0 : Int) := mt (i_eq (x := p2) (y := 0)).mpr c18
          refine lv_aload S.x S.b d_Mpg_two_302 (lv_at hl 0 rfl) ?_
          refine lv_iconst (v := 0) S.x S.b d_Mpg_two_304 (by decide) ?_
          first | refine px_calli (pr := [wdP cs h r g tf ta pf na ma wa (upd cf 46 1) ca ef ea xf xa]) (px_runV (As := [.int 0]) (rest := []) S (c_String_charAt l D cs sk2 st3 (mlen z1.toNatClampNeg) (mby z1.toNatClampNeg) 0  (show (mlen z1.toNatClampNeg) ≤ 1000000 from by omega) (show 0 ≤ (0 : Int) from oz_5a341f00aa) (show (0 : Int) < ((mlen z1.toNatClampNeg) : Int) from by omega) _) hT (pr := [wdP cs h r g tf ta pf na ma wa (upd cf 46 1) ca ef ea xf xa]) (pcs := []) hw (oX_call (P := (fun A U H => (oF A U H) ∧ (oZ A U H) ∧ (oS A sk2 st3 (mlen z1.toNatClampNeg) (mby z1.toNatClampNeg) U H))) (pr := [wdP cs h r g tf ta pf na ma wa (upd cf 46 1) ca ef ea xf xa]) (oG_and oG_F (oG_and oG_Z oG_S)) hw hA ⟨hF0, hZ, hSsk2⟩) (oS_recv hw hSsk2) m1_68 m11_162 m1_66 m1_67 m1_3 q_String_charAt ⟨Nat.le_of_ble_eq_true rfl, Nat.le_of_ble_eq_true rfl⟩ hl.1 rfl (Nat.le_of_ble_eq_true rfl) d_Mpg_two_305 ⟨Nat.le_of_ble_eq_true rfl, Nat.le_of_ble_eq_true rfl⟩) hw hA (fun v21 p20 H locs hp20 hw => ?_) | (refine px_calli (pr := [wdP cs h r g tf ta pf na ma wa (upd cf 46 1) ca ef ea xf xa]) (px_runV (As := [.int 0]) (rest := []) S (c_String_charAt l D cs sk2 st3 (mlen z1.toNatClampNeg) (mby z1.toNatClampNeg) 0  (show (mlen z1.toNatClampNeg) ≤ 1000000 from by omega) (show 0 ≤ (0 : Int) from by first | exact oz_5a341f00aa | omega) (show (0 : Int) < ((mlen z1.toNatClampNeg) : Int) from by omega) _) hT (pr := [wdP cs h r g tf ta pf na ma wa (upd cf 46 1) ca ef ea xf xa]) (pcs := []) hw (oX_call (P := (fun A U H => (oF A U H) ∧ (oZ A U H) ∧ (oS A sk2 st3 (mlen z1.toNatClampNeg) (mby z1.toNatClampNeg) U H))) (pr := [wdP cs h r g tf ta pf na ma wa (upd cf 46 1) ca ef ea xf xa]) (oG_and oG_F (oG_and oG_Z oG_S)) hw hA ⟨hF0, hZ, hSsk2⟩) (oS_recv hw hSsk2) m1_68 m11_162 m1_66 m1_67 m1_3 q_String_charAt ⟨Nat.le_of_ble_eq_true rfl, Nat.le_of_ble_eq_true rfl⟩ hl.1 rfl (Nat.le_of_ble_eq_true rfl) d_Mpg_two_305 ⟨Nat.le_of_ble_eq_true rfl, Nat.le_of_ble_eq_true rfl⟩) hw hA (fun v21 p20 H locs hp20 hw => ?_))
          obtain ⟨rfl, e22, e23⟩ := hp20
          have e22 : narrow .char (.int v21) = .int v21 := e22
          have e23 : R_String_charAt (mby z1.toNatClampNeg) (0 : Int32) v21 := e23
          have lv21 := Int32.le_toInt v21
          have uv21 := Int32.toInt_lt v21
          refine lv_bipush (v := 47) S.x S.b d_Mpg_two_308 (by decide) ?_
          refine lv_icmp_ne (tgt := 319) S.x S.b d_Mpg_two_310 (by decide) (fun c24 => ?_) (fun c24 => ?_)
          · have nc24 : ¬ v21.toInt = (47 : Int) := mt (i_eq (x := v21) (y := 47)).mpr c24
            refine lv_iload_n S.x S.b d_Mpg_two_319 rfl (lv_at hl 3 rfl) ?_
            refine lv_iload_n S.x S.b d_Mpg_two_320 rfl (lv_at hl 4 rfl) ?_
            refine lv_irem S.x S.b d_Mpg_two_321 (fun hz0 => by have hz1 := i_eq.mp hz0; omega) ?_
            refine lv_topi (fun z26 ez26 => ?_)
            have lz26 := Int32.le_toInt z26
            have uz26 := Int32.toInt_lt z26
            exact px_iret (v := z26) S hr rfl hlk hAe hw (Nat.le_of_ble_eq_true rfl) (Nat.le_of_ble_eq_true rfl) (⟨(upd cf 46 1), rfl, (show KpE cf (upd cf 46 1) from (KpE.u46 hke)), (show WrV (upd cf 46 1) (tf 6).toInt from (WrV.u hwr (by decide) (by decide))), (show (cf 33).toInt = (cf 33).toInt from rfl), (show (cf 38).toInt = (cf 38).toInt from rfl), (show (cf 48).toInt = (cf 48).toInt from rfl), (show (cf 47).toInt = (cf 47).toInt from rfl), (show R_mp_two ta p0 p1 p2 cf (upd cf 46 1) z26 from (Or.inl ⟨z1, ez1, v6, e8, Or.inl ⟨nc9, v12, e14, Or.inl ⟨hdf_152, Or.inl ⟨nc16, Or.inl ⟨nc18, v21, e23, Or.inl ⟨nc24, z26, ez26, rfl, rfl⟩⟩⟩⟩⟩⟩))⟩) d_Mpg_two_322
          · have nc24 : v21.toInt = (47 : Int) := (i_eq (x := v21) (y := 47)).mp c24
            refine lv_iload_n S.x S.b d_Mpg_two_313 rfl (lv_at hl 3 rfl) ?_
            refine lv_iload_n S.x S.b d_Mpg_two_314 rfl (lv_at hl 4 rfl) ?_
            refine lv_idiv S.x S.b d_Mpg_two_315 (fun hz0 => by have hz1 := i_eq.mp hz0; omega) ?_
            refine lv_topi (fun z27 ez27 => ?_)
            have lz27 := Int32.le_toInt z27
            have uz27 := Int32.toInt_lt z27
            refine lv_goto (tgt := 322) S.x S.b d_Mpg_two_316 (by decide) ?_
            exact px_iret (v := z27) S hr rfl hlk hAe hw (Nat.le_of_ble_eq_true rfl) (Nat.le_of_ble_eq_true rfl) (⟨(upd cf 46 1), rfl, (show KpE cf (upd cf 46 1) from (KpE.u46 hke)), (show WrV (upd cf 46 1) (tf 6).toInt from (WrV.u hwr (by decide) (by decide))), (show (cf 33).toInt = (cf 33).toInt from rfl), (show (cf 38).toInt = (cf 38).toInt from rfl), (show (cf 48).toInt = (cf 48).toInt from rfl), (show (cf 47).toInt = (cf 47).toInt from rfl), (show R_mp_two ta p0 p1 p2 cf (upd cf 46 1) z27 from (Or.inl ⟨z1, ez1, v6, e8, Or.inl ⟨nc9, v12, e14, Or.inl ⟨hdf_152, Or.inl ⟨nc16, Or.inl ⟨nc18, v21, e23, Or.inr ⟨nc24, z27, ez27, rfl, rfl⟩⟩⟩⟩⟩⟩))⟩) d_Mpg_two_322
        · have nc18 : p2.toInt = (0 : Int) := (i_eq (x := p2) (y := 0)).mp c18
          refine lv_iconst (v := 0) S.x S.b d_Mpg_two_298 (by decide) ?_
          refine lv_goto (tgt := 322) S.x S.b d_Mpg_two_299 (by decide) ?_
          exact px_iret (v := 0) S hr rfl hlk hAe hw (Nat.le_of_ble_eq_true rfl) (Nat.le_of_ble_eq_true rfl) (⟨(upd cf 46 1), rfl, (show KpE cf (upd cf 46 1) from (KpE.u46 hke)), (show WrV (upd cf 46 1) (tf 6).toInt from (WrV.u hwr (by decide) (by decide))), (show (cf 33).toInt = (cf 33).toInt from rfl), (show (cf 38).toInt = (cf 38).toInt from rfl), (show (cf 48).toInt = (cf 48).toInt from rfl), (show (cf 47).toInt = (cf 47).toInt from rfl), (show R_mp_two ta p0 p1 p2 cf (upd cf 46 1) (0 : Int32) from (Or.inl ⟨z1, ez1, v6, e8, Or.inl ⟨nc9, v12, e14, Or.inl ⟨hdf_152, Or.inl ⟨nc16, Or.inr ⟨nc18, rfl, rfl⟩⟩⟩⟩⟩))⟩) d_Mpg_two_322
      · have nc16 : (cf 46).toInt = (0 : Int) := (i_eq (x := (cf 46)) (y := 0)).mp c16
        refine lv_iload_n S.x S.b d_Mpg_two_282 rfl (lv_at hl 4 rfl) ?_
        refine lv_if_ne (tgt := 290) S.x S.b d_Mpg_two_283 (by decide) (fun c28 => ?_) (fun c28 => ?_)
        · have nc28 : ¬ p2.toInt = (0 : Int) := mt (i_eq (x := p2) (y := 0)).mpr c28
          refine lv_iconst (v := 0) S.x S.b d_Mpg_two_290 (by decide) ?_
          refine pP_46 S hT hw 0 rfl m10_37 rfl rfl rfl d_Mpg_two_291 (ps' := [wdP cs h r g tf ta pf na ma wa (upd cf 46 0) ca ef ea xf xa]) rfl (fun H locs hw => ?_)
          refine lv_iload_n S.x S.b d_Mpg_two_294 rfl (lv_at hl 4 rfl) ?_
          refine lv_if_ne (tgt := 302) S.x S.b d_Mpg_two_295 (by decide) (fun c30 => ?_) (fun c30 => ?_)
          · have nc30 : ¬ p2.toInt = (0 : Int) := mt (i_eq (x := p2) (y := 0)).mpr c30
            refine lv_aload S.x S.b d_Mpg_two_302 (lv_at hl 0 rfl) ?_
            refine lv_iconst (v := 0) S.x S.b d_Mpg_two_304 (by decide) ?_
            first | refine px_calli (pr := [wdP cs h r g tf ta pf na ma wa (upd cf 46 0) ca ef ea xf xa]) (px_runV (As := [.int 0]) (rest := []) S (c_String_charAt l D cs sk2 st3 (mlen z1.toNatClampNeg) (mby z1.toNatClampNeg) 0  (show (mlen z1.toNatClampNeg) ≤ 1000000 from by omega) (show 0 ≤ (0 : Int) from oz_5a341f00aa) (show (0 : Int) < ((mlen z1.toNatClampNeg) : Int) from by omega) _) hT (pr := [wdP cs h r g tf ta pf na ma wa (upd cf 46 0) ca ef ea xf xa]) (pcs := []) hw (oX_call (P := (fun A U H => (oF A U H) ∧ (oZ A U H) ∧ (oS A sk2 st3 (mlen z1.toNatClampNeg) (mby z1.toNatClampNeg) U H))) (pr := [wdP cs h r g tf ta pf na ma wa (upd cf 46 0) ca ef ea xf xa]) (oG_and oG_F (oG_and oG_Z oG_S)) hw hA ⟨hF0, hZ, hSsk2⟩) (oS_recv hw hSsk2) m1_68 m11_162 m1_66 m1_67 m1_3 q_String_charAt ⟨Nat.le_of_ble_eq_true rfl, Nat.le_of_ble_eq_true rfl⟩ hl.1 rfl (Nat.le_of_ble_eq_true rfl) d_Mpg_two_305 ⟨Nat.le_of_ble_eq_true rfl, Nat.le_of_ble_eq_true rfl⟩) hw hA (fun v33 p32 H locs hp32 hw => ?_) | (refine px_calli (pr := [wdP cs h r g tf ta pf na ma wa (upd cf 46 0) ca ef ea xf xa]) (px_runV (As := [.int 0]) (rest := []) S (c_String_charAt l D cs sk2 st3 (mlen z1.toNatClampNeg) (mby z1.toNatClampNeg) 0  (show (mlen z1.toNatClampNeg) ≤ 1000000 from by omega) (show 0 ≤ (0 : Int) from by first | exact oz_5a341f00aa | omega) (show (0 : Int) < ((mlen z1.toNatClampNeg) : Int) from by omega) _) hT (pr := [wdP cs h r g tf ta pf na ma wa (upd cf 46 0) ca ef ea xf xa]) (pcs := []) hw (oX_call (P := (fun A U H => (oF A U H) ∧ (oZ A U H) ∧ (oS A sk2 st3 (mlen z1.toNatClampNeg) (mby z1.toNatClampNeg) U H))) (pr := [wdP cs h r g tf ta pf na ma wa (upd cf 46 0) ca ef ea xf xa]) (oG_and oG_F (oG_and oG_Z oG_S)) hw hA ⟨hF0, hZ, hSsk2⟩) (oS_recv hw hSsk2) m1_68 m11_162 m1_66 m1_67 m1_3 q_String_charAt ⟨Nat.le_of_ble_eq_true rfl, Nat.le_of_ble_eq_true rfl⟩ hl.1 rfl (Nat.le_of_ble_eq_true rfl) d_Mpg_two_305 ⟨Nat.le_of_ble_eq_true rfl, Nat.le_of_ble_eq_true rfl⟩) hw hA (fun v33 p32 H locs hp32 hw => ?_))
            obtain ⟨rfl, e34, e35⟩ := hp32
            have e34 : narrow .char (.int v33) = .int v33 := e34
            have e35 : R_String_charAt (mby z1.toNatClampNeg) (0 : Int32) v33 := e35
            have lv33 := Int32.le_toInt v33
            have uv33 := Int32.toInt_lt v33
            refine lv_bipush (v := 47) S.x S.b d_Mpg_two_308 (by decide) ?_
            refine lv_icmp_ne (tgt := 319) S.x S.b d_Mpg_two_310 (by decide) (fun c36 => ?_) (fun c36 => ?_)
            · have nc36 : ¬ v33.toInt = (47 : Int) := mt (i_eq (x := v33) (y := 47)).mpr c36
              refine lv_iload_n S.x S.b d_Mpg_two_319 rfl (lv_at hl 3 rfl) ?_
              refine lv_iload_n S.x S.b d_Mpg_two_320 rfl (lv_at hl 4 rfl) ?_
              refine lv_irem S.x S.b d_Mpg_two_321 (fun hz0 => by have hz1 := i_eq.mp hz0; omega) ?_
              refine lv_topi (fun z38 ez38 => ?_)
              have lz38 := Int32.le_toInt z38
              have uz38 := Int32.toInt_lt z38
              exact px_iret (v := z38) S hr rfl hlk hAe hw (Nat.le_of_ble_eq_true rfl) (Nat.le_of_ble_eq_true rfl) (⟨(upd cf 46 0), rfl, (show KpE cf (upd cf 46 0) from (KpE.u46 hke)), (show WrV (upd cf 46 0) (tf 6).toInt from (WrV.u hwr (by decide) (by decide))), (show (cf 33).toInt = (cf 33).toInt from rfl), (show (cf 38).toInt = (cf 38).toInt from rfl), (show (cf 48).toInt = (cf 48).toInt from rfl), (show (cf 47).toInt = (cf 47).toInt from rfl), (show R_mp_two ta p0 p1 p2 cf (upd cf 46 0) z38 from (Or.inl ⟨z1, ez1, v6, e8, Or.inl ⟨nc9, v12, e14, Or.inl ⟨hdf_152, Or.inr ⟨nc16, Or.inl ⟨nc28, Or.inl ⟨nc30, v33, e35, Or.inl ⟨nc36, z38, ez38, rfl, rfl⟩⟩⟩⟩⟩⟩⟩))⟩) d_Mpg_two_322
            · have nc36 : v33.toInt = (47 : Int) := (i_eq (x := v33) (y := 47)).mp c36
              refine lv_iload_n S.x S.b d_Mpg_two_313 rfl (lv_at hl 3 rfl) ?_
              refine lv_iload_n S.x S.b d_Mpg_two_314 rfl (lv_at hl 4 rfl) ?_
              refine lv_idiv S.x S.b d_Mpg_two_315 (fun hz0 => by have hz1 := i_eq.mp hz0; omega) ?_
              refine lv_topi (fun z39 ez39 => ?_)
              have lz39 := Int32.le_toInt z39
              have uz39 := Int32.toInt_lt z39
              refine lv_goto (tgt := 322) S.x S.b d_Mpg_two_316 (by decide) ?_
              exact px_iret (v := z39) S hr rfl hlk hAe hw (Nat.le_of_ble_eq_true rfl) (Nat.le_of_ble_eq_true rfl) (⟨(upd cf 46 0), rfl, (show KpE cf (upd cf 46 0) from (KpE.u46 hke)), (show WrV (upd cf 46 0) (tf 6).toInt from (WrV.u hwr (by decide) (by decide))), (show (cf 33).toInt = (cf 33).toInt from rfl), (show (cf 38).toInt = (cf 38).toInt from rfl), (show (cf 48).toInt = (cf 48).toInt from rfl), (show (cf 47).toInt = (cf 47).toInt from rfl), (show R_mp_two ta p0 p1 p2 cf (upd cf 46 0) z39 from (Or.inl ⟨z1, ez1, v6, e8, Or.inl ⟨nc9, v12, e14, Or.inl ⟨hdf_152, Or.inr ⟨nc16, Or.inl ⟨nc28, Or.inl ⟨nc30, v33, e35, Or.inr ⟨nc36, z39, ez39, rfl, rfl⟩⟩⟩⟩⟩⟩⟩))⟩) d_Mpg_two_322
          · have nc30 : p2.toInt = (0 : Int) := (i_eq (x := p2) (y := 0)).mp c30
            refine lv_iconst (v := 0) S.x S.b d_Mpg_two_298 (by decide) ?_
            refine lv_goto (tgt := 322) S.x S.b d_Mpg_two_299 (by decide) ?_
            exact px_iret (v := 0) S hr rfl hlk hAe hw (Nat.le_of_ble_eq_true rfl) (Nat.le_of_ble_eq_true rfl) (⟨(upd cf 46 0), rfl, (show KpE cf (upd cf 46 0) from (KpE.u46 hke)), (show WrV (upd cf 46 0) (tf 6).toInt from (WrV.u hwr (by decide) (by decide))), (show (cf 33).toInt = (cf 33).toInt from rfl), (show (cf 38).toInt = (cf 38).toInt from rfl), (show (cf 48).toInt = (cf 48).toInt from rfl), (show (cf 47).toInt = (cf 47).toInt from rfl), (show R_mp_two ta p0 p1 p2 cf (upd cf 46 0) (0 : Int32) from (Or.inl ⟨z1, ez1, v6, e8, Or.inl ⟨nc9, v12, e14, Or.inl ⟨hdf_152, Or.inr ⟨nc16, Or.inl ⟨nc28, Or.inr ⟨nc30, rfl, rfl⟩⟩⟩⟩⟩⟩))⟩) d_Mpg_two_322
        · have nc28 : p2.toInt = (0 : Int) := (i_eq (x := p2) (y := 0)).mp c28
          refine lv_iconst (v := 1) S.x S.b d_Mpg_two_286 (by decide) ?_
          refine lv_goto (tgt := 291) S.x S.b d_Mpg_two_287 (by decide) ?_
          refine pP_46 S hT hw 0 rfl m10_37 rfl rfl rfl d_Mpg_two_291 (ps' := [wdP cs h r g tf ta pf na ma wa (upd cf 46 1) ca ef ea xf xa]) rfl (fun H locs hw => ?_)
          refine lv_iload_n S.x S.b d_Mpg_two_294 rfl (lv_at hl 4 rfl) ?_
          refine lv_if_ne (tgt := 302) S.x S.b d_Mpg_two_295 (by decide) (fun c40 => ?_) (fun c40 => ?_)
          · have nc40 : ¬ p2.toInt = (0 : Int) := mt (i_eq (x := p2) (y := 0)).mpr c40
            refine lv_aload S.x S.b d_Mpg_two_302 (lv_at hl 0 rfl) ?_
            refine lv_iconst (v := 0) S.x S.b d_Mpg_two_304 (by decide) ?_
            first | refine px_calli (pr := [wdP cs h r g tf ta pf na ma wa (upd cf 46 1) ca ef ea xf xa]) (px_runV (As := [.int 0]) (rest := []) S (c_String_charAt l D cs sk2 st3 (mlen z1.toNatClampNeg) (mby z1.toNatClampNeg) 0  (show (mlen z1.toNatClampNeg) ≤ 1000000 from by omega) (show 0 ≤ (0 : Int) from oz_5a341f00aa) (show (0 : Int) < ((mlen z1.toNatClampNeg) : Int) from by omega) _) hT (pr := [wdP cs h r g tf ta pf na ma wa (upd cf 46 1) ca ef ea xf xa]) (pcs := []) hw (oX_call (P := (fun A U H => (oF A U H) ∧ (oZ A U H) ∧ (oS A sk2 st3 (mlen z1.toNatClampNeg) (mby z1.toNatClampNeg) U H))) (pr := [wdP cs h r g tf ta pf na ma wa (upd cf 46 1) ca ef ea xf xa]) (oG_and oG_F (oG_and oG_Z oG_S)) hw hA ⟨hF0, hZ, hSsk2⟩) (oS_recv hw hSsk2) m1_68 m11_162 m1_66 m1_67 m1_3 q_String_charAt ⟨Nat.le_of_ble_eq_true rfl, Nat.le_of_ble_eq_true rfl⟩ hl.1 rfl (Nat.le_of_ble_eq_true rfl) d_Mpg_two_305 ⟨Nat.le_of_ble_eq_true rfl, Nat.le_of_ble_eq_true rfl⟩) hw hA (fun v43 p42 H locs hp42 hw => ?_) | (refine px_calli (pr := [wdP cs h r g tf ta pf na ma wa (upd cf 46 1) ca ef ea xf xa]) (px_runV (As := [.int 0]) (rest := []) S (c_String_charAt l D cs sk2 st3 (mlen z1.toNatClampNeg) (mby z1.toNatClampNeg) 0  (show (mlen z1.toNatClampNeg) ≤ 1000000 from by omega) (show 0 ≤ (0 : Int) from by first | exact oz_5a341f00aa | omega) (show (0 : Int) < ((mlen z1.toNatClampNeg) : Int) from by omega) _) hT (pr := [wdP cs h r g tf ta pf na ma wa (upd cf 46 1) ca ef ea xf xa]) (pcs := []) hw (oX_call (P := (fun A U H => (oF A U H) ∧ (oZ A U H) ∧ (oS A sk2 st3 (mlen z1.toNatClampNeg) (mby z1.toNatClampNeg) U H))) (pr := [wdP cs h r g tf ta pf na ma wa (upd cf 46 1) ca ef ea xf xa]) (oG_and oG_F (oG_and oG_Z oG_S)) hw hA ⟨hF0, hZ, hSsk2⟩) (oS_recv hw hSsk2) m1_68 m11_162 m1_66 m1_67 m1_3 q_String_charAt ⟨Nat.le_of_ble_eq_true rfl, Nat.le_of_ble_eq_true rfl⟩ hl.1 rfl (Nat.le_of_ble_eq_true rfl) d_Mpg_two_305 ⟨Nat.le_of_ble_eq_true rfl, Nat.le_of_ble_eq_true rfl⟩) hw hA (fun v43 p42 H locs hp42 hw => ?_))
            obtain ⟨rfl, e44, e45⟩ := hp42
            have e44 : narrow .char (.int v43) = .int v43 := e44
            have e45 : R_String_charAt (mby z1.toNatClampNeg) (0 : Int32) v43 := e45
            have lv43 := Int32.le_toInt v43
            have uv43 := Int32.toInt_lt v43
            refine lv_bipush (v := 47) S.x S.b d_Mpg_two_308 (by decide) ?_
            refine lv_icmp_ne (tgt := 319) S.x S.b d_Mpg_two_310 (by decide) (fun c46 => ?_) (fun c46 => ?_)
            · have nc46 : ¬ v43.toInt = (47 : Int) := mt (i_eq (x := v43) (y := 47)).mpr c46
              refine lv_iload_n S.x S.b d_Mpg_two_319 rfl (lv_at hl 3 rfl) ?_
              refine lv_iload_n S.x S.b d_Mpg_two_320 rfl (lv_at hl 4 rfl) ?_
              refine lv_irem S.x S.b d_Mpg_two_321 (fun hz0 => by have hz1 := i_eq.mp hz0; omega) ?_
              refine lv_topi (fun z48 ez48 => ?_)
              have lz48 := Int32.le_toInt z48
              have uz48 := Int32.toInt_lt z48
              exact px_iret (v := z48) S hr rfl hlk hAe hw (Nat.le_of_ble_eq_true rfl) (Nat.le_of_ble_eq_true rfl) (⟨(upd cf 46 1), rfl, (show KpE cf (upd cf 46 1) from (KpE.u46 hke)), (show WrV (upd cf 46 1) (tf 6).toInt from (WrV.u hwr (by decide) (by decide))), (show (cf 33).toInt = (cf 33).toInt from rfl), (show (cf 38).toInt = (cf 38).toInt from rfl), (show (cf 48).toInt = (cf 48).toInt from rfl), (show (cf 47).toInt = (cf 47).toInt from rfl), (show R_mp_two ta p0 p1 p2 cf (upd cf 46 1) z48 from (Or.inl ⟨z1, ez1, v6, e8, Or.inl ⟨nc9, v12, e14, Or.inl ⟨hdf_152, Or.inr ⟨nc16, Or.inr ⟨nc28, Or.inl ⟨nc40, v43, e45, Or.inl ⟨nc46, z48, ez48, rfl, rfl⟩⟩⟩⟩⟩⟩⟩))⟩) d_Mpg_two_322
            · have nc46 : v43.toInt = (47 : Int) := (i_eq (x := v43) (y := 47)).mp c46
              refine lv_iload_n S.x S.b d_Mpg_two_313 rfl (lv_at hl 3 rfl) ?_
              refine lv_iload_n S.x S.b d_Mpg_two_314 rfl (lv_at hl 4 rfl) ?_
              refine lv_idiv S.x S.b d_Mpg_two_315 (fun hz0 => by have hz1 := i_eq.mp hz0; omega) ?_
              refine lv_topi (fun z49 ez49 => ?_)
              have lz49 := Int32.le_toInt z49
              have uz49 := Int32.toInt_lt z49
              refine lv_goto (tgt := 322) S.x S.b d_Mpg_two_316 (by decide) ?_
              exact px_iret (v := z49) S hr rfl hlk hAe hw (Nat.le_of_ble_eq_true rfl) (Nat.le_of_ble_eq_true rfl) (⟨(upd cf 46 1), rfl, (show KpE cf (upd cf 46 1) from (KpE.u46 hke)), (show WrV (upd cf 46 1) (tf 6).toInt from (WrV.u hwr (by decide) (by decide))), (show (cf 33).toInt = (cf 33).toInt from rfl), (show (cf 38).toInt = (cf 38).toInt from rfl), (show (cf 48).toInt = (cf 48).toInt from rfl), (show (cf 47).toInt = (cf 47).toInt from rfl), (show R_mp_two ta p0 p1 p2 cf (upd cf 46 1) z49 from (Or.inl ⟨z1, ez1, v6, e8, Or.inl ⟨nc9, v12, e14, Or.inl ⟨hdf_152, Or.inr ⟨nc16, Or.inr ⟨nc28, Or.inl ⟨nc40, v43, e45, Or.inr ⟨nc46, z49, ez49, rfl, rfl⟩⟩⟩⟩⟩⟩⟩))⟩) d_Mpg_two_322
          · have nc40 : p2.toInt = (0 : Int) := (i_eq (x := p2) (y := 0)).mp c40
            refine lv_iconst (v := 0) S.x S.b d_Mpg_two_298 (by decide) ?_
            refine lv_goto (tgt := 322) S.x S.b d_Mpg_two_299 (by decide) ?_
            exact px_iret (v := 0) S hr rfl hlk hAe hw (Nat.le_of_ble_eq_true rfl) (Nat.le_of_ble_eq_true rfl) (⟨(upd cf 46 1), rfl, (show KpE cf (upd cf 46 1) from (KpE.u46 hke)), (show WrV (upd cf 46 1) (tf 6).toInt from (WrV.u hwr (by decide) (by decide))), (show (cf 33).toInt = (cf 33).toInt from rfl), (show (cf 38).toInt = (cf 38).toInt from rfl), (show (cf 48).toInt = (cf 48).toInt from rfl), (show (cf 47).toInt = (cf 47).toInt from rfl), (show R_mp_two ta p0 p1 p2 cf (upd cf 46 1) (0 : Int32) from (Or.inl ⟨z1, ez1, v6, e8, Or.inl ⟨nc9, v12, e14, Or.inl ⟨hdf_152, Or.inr ⟨nc16, Or.inr ⟨nc28, Or.inr ⟨nc40, rfl, rfl⟩⟩⟩⟩⟩⟩))⟩) d_Mpg_two_322
    · refine List.forall_mem_cons.mpr ⟨fun c50 => ?_, List.forall_mem_cons.mpr ⟨fun c50 => ?_, List.forall_mem_cons.mpr ⟨fun c50 => ?_, List.forall_mem_cons.mpr ⟨fun c50 => ?_, List.forall_mem_cons.mpr ⟨fun c50 => ?_, List.forall_mem_cons.mpr ⟨fun c50 => ?_, List.forall_mem_cons.mpr ⟨fun c50 => ?_, List.forall_mem_cons.mpr ⟨fun c50 => ?_, fun _ h => absurd h List.not_mem_nil⟩⟩⟩⟩⟩⟩⟩⟩
      · simp only [List.mem_cons, List.not_mem_nil, or_false] at c50
        refine lv_iload_n S.x S.b d_Mpg_two_236 rfl (lv_at hl 3 rfl) ?_
        refine lv_iload_n S.x S.b d_Mpg_two_237 rfl (lv_at hl 4 rfl) ?_
        refine lv_iand S.x S.b d_Mpg_two_238 ?_
        refine lv_topi (fun z51 ez51 => ?_)
        have lz51 := Int32.le_toInt z51
        have uz51 := Int32.toInt_lt z51
        exact px_iret (v := z51) S hr rfl hlk hAe hw (Nat.le_of_ble_eq_true rfl) (Nat.le_of_ble_eq_true rfl) (⟨cf, rfl, (show KpE cf cf from hke), (show WrV cf (tf 6).toInt from hwr), (show (cf 33).toInt = (cf 33).toInt from rfl), (show (cf 38).toInt = (cf 38).toInt from rfl), (show (cf 48).toInt = (cf 48).toInt from rfl), (show (cf 47).toInt = (cf 47).toInt from rfl), (show R_mp_two ta p0 p1 p2 cf cf z51 from (Or.inl ⟨z1, ez1, v6, e8, Or.inl ⟨nc9, v12, e14, Or.inr (Or.inl ⟨c50, z51, ez51, rfl, rfl⟩)⟩⟩))⟩) d_Mpg_two_239
      · simp only [List.mem_cons, List.not_mem_nil, or_false] at c50
        refine lv_iload_n S.x S.b d_Mpg_two_270 rfl (lv_at hl 3 rfl) ?_
        refine lv_iload_n S.x S.b d_Mpg_two_271 rfl (lv_at hl 4 rfl) ?_
        refine lv_imul S.x S.b d_Mpg_two_272 ?_
        refine lv_topi (fun z52 ez52 => ?_)
        have lz52 := Int32.le_toInt z52
        have uz52 := Int32.toInt_lt z52
        exact px_iret (v := z52) S hr rfl hlk hAe hw (Nat.le_of_ble_eq_true rfl) (Nat.le_of_ble_eq_true rfl) (⟨cf, rfl, (show KpE cf cf from hke), (show WrV cf (tf 6).toInt from hwr), (show (cf 33).toInt = (cf 33).toInt from rfl), (show (cf 38).toInt = (cf 38).toInt from rfl), (show (cf 48).toInt = (cf 48).toInt from rfl), (show (cf 47).toInt = (cf 47).toInt from rfl), (show R_mp_two ta p0 p1 p2 cf cf z52 from (Or.inl ⟨z1, ez1, v6, e8, Or.inl ⟨nc9, v12, e14, Or.inr (Or.inr (Or.inl ⟨c50, z52, ez52, rfl, rfl⟩))⟩⟩))⟩) d_Mpg_two_273
      · simp only [List.mem_cons, List.not_mem_nil, or_false] at c50
        refine lv_iload_n S.x S.b d_Mpg_two_262 rfl (lv_at hl 3 rfl) ?_
        refine lv_iload_n S.x S.b d_Mpg_two_263 rfl (lv_at hl 4 rfl) ?_
        refine lv_iadd S.x S.b d_Mpg_two_264 ?_
        refine lv_topi (fun z53 ez53 => ?_)
        have tz53 : z53.toInt = (p1.toInt + p2.toInt + 2147483648) % 4294967296 - 2147483648 := by rw [ez53]; exact i_add p1 p2
        have lz53 := Int32.le_toInt z53
        have uz53 := Int32.toInt_lt z53
        try replace tz53 : z53.toInt = p1.toInt + p2.toInt := by omega
        exact px_iret (v := z53) S hr rfl hlk hAe hw (Nat.le_of_ble_eq_true rfl) (Nat.le_of_ble_eq_true rfl) (⟨cf, rfl, (show KpE cf cf from hke), (show WrV cf (tf 6).toInt from hwr), (show (cf 33).toInt = (cf 33).toInt from rfl), (show (cf 38).toInt = (cf 38).toInt from rfl), (show (cf 48).toInt = (cf 48).toInt from rfl), (show (cf 47).toInt = (cf 47).toInt from rfl), (show R_mp_two ta p0 p1 p2 cf cf z53 from (Or.inl ⟨z1, ez1, v6, e8, Or.inl ⟨nc9, v12, e14, Or.inr (Or.inr (Or.inr (Or.inl ⟨c50, z53, ez53, rfl, rfl⟩)))⟩⟩))⟩) d_Mpg_two_265
      · simp only [List.mem_cons, List.not_mem_nil, or_false] at c50
        refine lv_iload_n S.x S.b d_Mpg_two_266 rfl (lv_at hl 3 rfl) ?_
        refine lv_iload_n S.x S.b d_Mpg_two_267 rfl (lv_at hl 4 rfl) ?_
        refine lv_isub S.x S.b d_Mpg_two_268 ?_
        refine lv_topi (fun z54 ez54 => ?_)
        have tz54 : z54.toInt = (p1.toInt - p2.toInt + 2147483648) % 4294967296 - 2147483648 := by rw [ez54]; exact i_sub p1 p2
        have lz54 := Int32.le_toInt z54
        have uz54 := Int32.toInt_lt z54
        try replace tz54 : z54.toInt = p1.toInt - p2.toInt := by omega
        exact px_iret (v := z54) S hr rfl hlk hAe hw (Nat.le_of_ble_eq_true rfl) (Nat.le_of_ble_eq_true rfl) (⟨cf, rfl, (show KpE cf cf from hke), (show WrV cf (tf 6).toInt from hwr), (show (cf 33).toInt = (cf 33).toInt from rfl), (show (cf 38).toInt = (cf 38).toInt from rfl), (show (cf 48).toInt = (cf 48).toInt from rfl), (show (cf 47).toInt = (cf 47).toInt from rfl), (show R_mp_two ta p0 p1 p2 cf cf z54 from (Or.inl ⟨z1, ez1, v6, e8, Or.inl ⟨nc9, v12, e14, Or.inr (Or.inr (Or.inr (Or.inr (Or.inl ⟨c50, z54, ez54, rfl, rfl⟩))))⟩⟩))⟩) d_Mpg_two_269
      · simp only [List.mem_cons, List.not_mem_nil, or_false] at c50
        refine lv_iload_n S.x S.b d_Mpg_two_240 rfl (lv_at hl 3 rfl) ?_
        refine lv_iload_n S.x S.b d_Mpg_two_241 rfl (lv_at hl 4 rfl) ?_
        refine lv_icmp_ge (tgt := 249) S.x S.b d_Mpg_two_242 (by decide) (fun c55 => ?_) (fun c55 => ?_)
        · have nc55 : p2.toInt ≤ p1.toInt := (i_le (x := p2) (y := p1)).mp c55
          refine lv_iconst (v := 0) S.x S.b d_Mpg_two_249 (by decide) ?_
          exact px_iret (v := 0) S hr rfl hlk hAe hw (Nat.le_of_ble_eq_true rfl) (Nat.le_of_ble_eq_true rfl) (⟨cf, rfl, (show KpE cf cf from hke), (show WrV cf (tf 6).toInt from hwr), (show (cf 33).toInt = (cf 33).toInt from rfl), (show (cf 38).toInt = (cf 38).toInt from rfl), (show (cf 48).toInt = (cf 48).toInt from rfl), (show (cf 47).toInt = (cf 47).toInt from rfl), (show R_mp_two ta p0 p1 p2 cf cf (0 : Int32) from (Or.inl ⟨z1, ez1, v6, e8, Or.inl ⟨nc9, v12, e14, Or.inr (Or.inr (Or.inr (Or.inr (Or.inr (Or.inl ⟨c50, Or.inl ⟨nc55, rfl, rfl⟩⟩)))))⟩⟩))⟩) d_Mpg_two_250
        · have nc55 : ¬ p2.toInt ≤ p1.toInt := mt (i_le (x := p2) (y := p1)).mpr c55
          refine lv_iconst (v := 1) S.x S.b d_Mpg_two_245 (by decide) ?_
          refine lv_goto (tgt := 250) S.x S.b d_Mpg_two_246 (by decide) ?_
          exact px_iret (v := 1) S hr rfl hlk hAe hw (Nat.le_of_ble_eq_true rfl) (Nat.le_of_ble_eq_true rfl) (⟨cf, rfl, (show KpE cf cf from hke), (show WrV cf (tf 6).toInt from hwr), (show (cf 33).toInt = (cf 33).toInt from rfl), (show (cf 38).toInt = (cf 38).toInt from rfl), (show (cf 48).toInt = (cf 48).toInt from rfl), (show (cf 47).toInt = (cf 47).toInt from rfl), (show R_mp_two ta p0 p1 p2 cf cf (1 : Int32) from (Or.inl ⟨z1, ez1, v6, e8, Or.inl ⟨nc9, v12, e14, Or.inr (Or.inr (Or.inr (Or.inr (Or.inr (Or.inl ⟨c50, Or.inr ⟨nc55, rfl, rfl⟩⟩)))))⟩⟩))⟩) d_Mpg_two_250
      · simp only [List.mem_cons, List.not_mem_nil, or_false] at c50
        refine lv_iload_n S.x S.b d_Mpg_two_251 rfl (lv_at hl 3 rfl) ?_
        refine lv_iload_n S.x S.b d_Mpg_two_252 rfl (lv_at hl 4 rfl) ?_
        refine lv_icmp_le (tgt := 260) S.x S.b d_Mpg_two_253 (by decide) (fun c57 => ?_) (fun c57 => ?_)
        · have nc57 : p1.toInt ≤ p2.toInt := (i_le (x := p1) (y := p2)).mp c57
          refine lv_iconst (v := 0) S.x S.b d_Mpg_two_260 (by decide) ?_
          exact px_iret (v := 0) S hr rfl hlk hAe hw (Nat.le_of_ble_eq_true rfl) (Nat.le_of_ble_eq_true rfl) (⟨cf, rfl, (show KpE cf cf from hke), (show WrV cf (tf 6).toInt from hwr), (show (cf 33).toInt = (cf 33).toInt from rfl), (show (cf 38).toInt = (cf 38).toInt from rfl), (show (cf 48).toInt = (cf 48).toInt from rfl), (show (cf 47).toInt = (cf 47).toInt from rfl), (show R_mp_two ta p0 p1 p2 cf cf (0 : Int32) from (Or.inl ⟨z1, ez1, v6, e8, Or.inl ⟨nc9, v12, e14, Or.inr (Or.inr (Or.inr (Or.inr (Or.inr (Or.inr (Or.inl ⟨c50, Or.inl ⟨nc57, rfl, rfl⟩⟩))))))⟩⟩))⟩) d_Mpg_two_261
        · have nc57 : ¬ p1.toInt ≤ p2.toInt := mt (i_le (x := p1) (y := p2)).mpr c57
          refine lv_iconst (v := 1) S.x S.b d_Mpg_two_256 (by decide) ?_
          refine lv_goto (tgt := 261) S.x S.b d_Mpg_two_257 (by decide) ?_
          exact px_iret (v := 1) S hr rfl hlk hAe hw (Nat.le_of_ble_eq_true rfl) (Nat.le_of_ble_eq_true rfl) (⟨cf, rfl, (show KpE cf cf from hke), (show WrV cf (tf 6).toInt from hwr), (show (cf 33).toInt = (cf 33).toInt from rfl), (show (cf 38).toInt = (cf 38).toInt from rfl), (show (cf 48).toInt = (cf 48).toInt from rfl), (show (cf 47).toInt = (cf 47).toInt from rfl), (show R_mp_two ta p0 p1 p2 cf cf (1 : Int32) from (Or.inl ⟨z1, ez1, v6, e8, Or.inl ⟨nc9, v12, e14, Or.inr (Or.inr (Or.inr (Or.inr (Or.inr (Or.inr (Or.inl ⟨c50, Or.inr ⟨nc57, rfl, rfl⟩⟩))))))⟩⟩))⟩) d_Mpg_two_261
      · simp only [List.mem_cons, List.not_mem_nil, or_false] at c50
        refine lv_iload_n S.x S.b d_Mpg_two_232 rfl (lv_at hl 3 rfl) ?_
        refine lv_iload_n S.x S.b d_Mpg_two_233 rfl (lv_at hl 4 rfl) ?_
        refine lv_ixor S.x S.b d_Mpg_two_234 ?_
        refine lv_topi (fun z59 ez59 => ?_)
        have lz59 := Int32.le_toInt z59
        have uz59 := Int32.toInt_lt z59
        exact px_iret (v := z59) S hr rfl hlk hAe hw (Nat.le_of_ble_eq_true rfl) (Nat.le_of_ble_eq_true rfl) (⟨cf, rfl, (show KpE cf cf from hke), (show WrV cf (tf 6).toInt from hwr), (show (cf 33).toInt = (cf 33).toInt from rfl), (show (cf 38).toInt = (cf 38).toInt from rfl), (show (cf 48).toInt = (cf 48).toInt from rfl), (show (cf 47).toInt = (cf 47).toInt from rfl), (show R_mp_two ta p0 p1 p2 cf cf z59 from (Or.inl ⟨z1, ez1, v6, e8, Or.inl ⟨nc9, v12, e14, Or.inr (Or.inr (Or.inr (Or.inr (Or.inr (Or.inr (Or.inr (Or.inl ⟨c50, z59, ez59, rfl, rfl⟩)))))))⟩⟩))⟩) d_Mpg_two_235
      · simp only [List.mem_cons, List.not_mem_nil, or_false] at c50
        refine lv_iload_n S.x S.b d_Mpg_two_228 rfl (lv_at hl 3 rfl) ?_
        refine lv_iload_n S.x S.b d_Mpg_two_229 rfl (lv_at hl 4 rfl) ?_
        refine lv_ior S.x S.b d_Mpg_two_230 ?_
        refine lv_topi (fun z60 ez60 => ?_)
        have lz60 := Int32.le_toInt z60
        have uz60 := Int32.toInt_lt z60
        exact px_iret (v := z60) S hr rfl hlk hAe hw (Nat.le_of_ble_eq_true rfl) (Nat.le_of_ble_eq_true rfl) (⟨cf, rfl, (show KpE cf cf from hke), (show WrV cf (tf 6).toInt from hwr), (show (cf 33).toInt = (cf 33).toInt from rfl), (show (cf 38).toInt = (cf 38).toInt from rfl), (show (cf 48).toInt = (cf 48).toInt from rfl), (show (cf 47).toInt = (cf 47).toInt from rfl), (show R_mp_two ta p0 p1 p2 cf cf z60 from (Or.inl ⟨z1, ez1, v6, e8, Or.inl ⟨nc9, v12, e14, Or.inr (Or.inr (Or.inr (Or.inr (Or.inr (Or.inr (Or.inr (Or.inr ⟨c50, z60, ez60, rfl, rfl⟩)))))))⟩⟩))⟩) d_Mpg_two_231
  · have nc9 : v6.toInt = (2 : Int) := (i_eq (x := v6) (y := 2)).mp c9
    refine lv_aload S.x S.b d_Mpg_two_22 (lv_at hl 0 rfl) ?_
    obtain ⟨sk61, hRsk61, st62, hSsk61⟩ := oP_litB hP (k := 71) (tx := "==") (n := 2) (List.mem_of_getElem? (i := 27) rfl)
    refine va_ldcS S.x S.b S.own hRsk61 d_Mpg_two_24 ?_
    first | refine px_calli (pr := [wdP cs h r g tf ta pf na ma wa cf ca ef ea xf xa]) (px_runV (As := [.ref sk61]) (rest := []) S (c_sg_equals l D cs sk2 st3 (mlen z1.toNatClampNeg) (mby z1.toNatClampNeg) sk61 st62 2 (lby "==")   (show (mlen z1.toNatClampNeg) ≤ 1000000 from (oz_f8a16524ad e7 nc9)) (show 2 ≤ 1000000 from by omega) _) hT (pr := [wdP cs h r g tf ta pf na ma wa cf ca ef ea xf xa]) (pcs := []) hw (oX_call (P := (fun A U H => (oZ A U H) ∧ (oS A sk2 st3 (mlen z1.toNatClampNeg) (mby z1.toNatClampNeg) U H) ∧ (oS A sk61 st62 2 (lby "==") U H))) (pr := [wdP cs h r g tf ta pf na ma wa cf ca ef ea xf xa]) (oG_and oG_Z (oG_and oG_S oG_S)) hw hA ⟨hZ, hSsk2, hSsk61⟩) (oS_recv hw hSsk2) m11_225 m11_222 m11_223 m11_224 m1_3 q_String_equals ⟨Nat.le_of_ble_eq_true rfl, Nat.le_of_ble_eq_true rfl⟩ hl.1 rfl (Nat.le_of_ble_eq_true rfl) d_Mpg_two_26 ⟨Nat.le_of_ble_eq_true rfl, Nat.le_of_ble_eq_true rfl⟩) hw hA (fun v65 p64 H locs hp64 hw => ?_) | (refine px_calli (pr := [wdP cs h r g tf ta pf na ma wa cf ca ef ea xf xa]) (px_runV (As := [.ref sk61]) (rest := []) S (c_sg_equals l D cs sk2 st3 (mlen z1.toNatClampNeg) (mby z1.toNatClampNeg) sk61 st62 2 (lby "==")   (show (mlen z1.toNatClampNeg) ≤ 1000000 from by first | exact oz_f8a16524ad e7 nc9 | omega) (show 2 ≤ 1000000 from by omega) _) hT (pr := [wdP cs h r g tf ta pf na ma wa cf ca ef ea xf xa]) (pcs := []) hw (oX_call (P := (fun A U H => (oZ A U H) ∧ (oS A sk2 st3 (mlen z1.toNatClampNeg) (mby z1.toNatClampNeg) U H) ∧ (oS A sk61 st62 2 (lby "==") U H))) (pr := [wdP cs h r g tf ta pf na ma wa cf ca ef ea xf xa]) (oG_and oG_Z (oG_and oG_S oG_S)) hw hA ⟨hZ, hSsk2, hSsk61⟩) (oS_recv hw hSsk2) m11_225 m11_222 m11_223 m11_224 m1_3 q_String_equals ⟨Nat.le_of_ble_eq_true rfl, Nat.le_of_ble_eq_true rfl⟩ hl.1 rfl (Nat.le_of_ble_eq_true rfl) d_Mpg_two_26 ⟨Nat.le_of_ble_eq_true rfl, Nat.le_of_ble_eq_true rfl⟩) hw hA (fun v65 p64 H locs hp64 hw => ?_))
    obtain ⟨rfl, e66, e67⟩ := hp64
    have e66 := z_rng e66
    have e67 : R_sg_equals (mlen z1.toNatClampNeg) (mby z1.toNatClampNeg) 2 (lby "==") v65 := e67
    have lv65 := Int32.le_toInt v65
    have uv65 := Int32.toInt_lt v65
    refine lv_if_eq (tgt := 45) S.x S.b d_Mpg_two_29 (by decide) (fun c68 => ?_) (fun c68 => ?_)
    · have nc68 : v65.toInt = (0 : Int) := (i_eq (x := v65) (y := 0)).mp c68
      refine lv_aload S.x S.b d_Mpg_two_45 (lv_at hl 0 rfl) ?_
      obtain ⟨sk70, hRsk70, st71, hSsk70⟩ := oP_litB hP (k := 73) (tx := "!=") (n := 2) (List.mem_of_getElem? (i := 28) rfl)
      refine va_ldcS S.x S.b S.own hRsk70 d_Mpg_two_47 ?_
      first | refine px_calli (pr := [wdP cs h r g tf ta pf na ma wa cf ca ef ea xf xa]) (px_runV (As := [.ref sk70]) (rest := []) S (c_sg_equals l D cs sk2 st3 (mlen z1.toNatClampNeg) (mby z1.toNatClampNeg) sk70 st71 2 (lby "!=")   (show (mlen z1.toNatClampNeg) ≤ 1000000 from (oz_f8a16524ad e7 nc9)) (show 2 ≤ 1000000 from by omega) _) hT (pr := [wdP cs h r g tf ta pf na ma wa cf ca ef ea xf xa]) (pcs := []) hw (oX_call (P := (fun A U H => (oZ A U H) ∧ (oS A sk2 st3 (mlen z1.toNatClampNeg) (mby z1.toNatClampNeg) U H) ∧ (oS A sk70 st71 2 (lby "!=") U H))) (pr := [wdP cs h r g tf ta pf na ma wa cf ca ef ea xf xa]) (oG_and oG_Z (oG_and oG_S oG_S)) hw hA ⟨hZ, hSsk2, hSsk70⟩) (oS_recv hw hSsk2) m11_225 m11_222 m11_223 m11_224 m1_3 q_String_equals ⟨Nat.le_of_ble_eq_true rfl, Nat.le_of_ble_eq_true rfl⟩ hl.1 rfl (Nat.le_of_ble_eq_true rfl) d_Mpg_two_49 ⟨Nat.le_of_ble_eq_true rfl, Nat.le_of_ble_eq_true rfl⟩) hw hA (fun v74 p73 H locs hp73 hw => ?_) | (refine px_calli (pr := [wdP cs h r g tf ta pf na ma wa cf ca ef ea xf xa]) (px_runV (As := [.ref sk70]) (rest := []) S (c_sg_equals l D cs sk2 st3 (mlen z1.toNatClampNeg) (mby z1.toNatClampNeg) sk70 st71 2 (lby "!=")   (show (mlen z1.toNatClampNeg) ≤ 1000000 from by first | exact oz_f8a16524ad e7 nc9 | omega) (show 2 ≤ 1000000 from by omega) _) hT (pr := [wdP cs h r g tf ta pf na ma wa cf ca ef ea xf xa]) (pcs := []) hw (oX_call (P := (fun A U H => (oZ A U H) ∧ (oS A sk2 st3 (mlen z1.toNatClampNeg) (mby z1.toNatClampNeg) U H) ∧ (oS A sk70 st71 2 (lby "!=") U H))) (pr := [wdP cs h r g tf ta pf na ma wa cf ca ef ea xf xa]) (oG_and oG_Z (oG_and oG_S oG_S)) hw hA ⟨hZ, hSsk2, hSsk70⟩) (oS_recv hw hSsk2) m11_225 m11_222 m11_223 m11_224 m1_3 q_String_equals ⟨Nat.le_of_ble_eq_true rfl, Nat.le_of_ble_eq_true rfl⟩ hl.1 rfl (Nat.le_of_ble_eq_true rfl) d_Mpg_two_49 ⟨Nat.le_of_ble_eq_true rfl, Nat.le_of_ble_eq_true rfl⟩) hw hA (fun v74 p73 H locs hp73 hw => ?_))
      obtain ⟨rfl, e75, e76⟩ := hp73
      have e75 := z_rng e75
      have e76 : R_sg_equals (mlen z1.toNatClampNeg) (mby z1.toNatClampNeg) 2 (lby "!=") v74 := e76
      have lv74 := Int32.le_toInt v74
      have uv74 := Int32.toInt_lt v74
      refine lv_if_eq (tgt := 68) S.x S.b d_Mpg_two_52 (by decide) (fun c77 => ?_) (fun c77 => ?_)
      · have nc77 : v74.toInt = (0 : Int) := (i_eq (x := v74) (y := 0)).mp c77
        refine lv_aload S.x S.b d_Mpg_two_68 (lv_at hl 0 rfl) ?_
        obtain ⟨sk79, hRsk79, st80, hSsk79⟩ := oP_litB hP (k := 75) (tx := "<=") (n := 2) (List.mem_of_getElem? (i := 29) rfl)
        refine va_ldcS S.x S.b S.own hRsk79 d_Mpg_two_70 ?_
        first | refine px_calli (pr := [wdP cs h r g tf ta pf na ma wa cf ca ef ea xf xa]) (px_runV (As := [.ref sk79]) (rest := []) S (c_sg_equals l D cs sk2 st3 (mlen z1.toNatClampNeg) (mby z1.toNatClampNeg) sk79 st80 2 (lby "<=")   (show (mlen z1.toNatClampNeg) ≤ 1000000 from (oz_f8a16524ad e7 nc9)) (show 2 ≤ 1000000 from by omega) _) hT (pr := [wdP cs h r g tf ta pf na ma wa cf ca ef ea xf xa]) (pcs := []) hw (oX_call (P := (fun A U H => (oZ A U H) ∧ (oS A sk2 st3 (mlen z1.toNatClampNeg) (mby z1.toNatClampNeg) U H) ∧ (oS A sk79 st80 2 (lby "<=") U H))) (pr := [wdP cs h r g tf ta pf na ma wa cf ca ef ea xf xa]) (oG_and oG_Z (oG_and oG_S oG_S)) hw hA ⟨hZ, hSsk2, hSsk79⟩) (oS_recv hw hSsk2) m11_225 m11_222 m11_223 m11_224 m1_3 q_String_equals ⟨Nat.le_of_ble_eq_true rfl, Nat.le_of_ble_eq_true rfl⟩ hl.1 rfl (Nat.le_of_ble_eq_true rfl) d_Mpg_two_72 ⟨Nat.le_of_ble_eq_true rfl, Nat.le_of_ble_eq_true rfl⟩) hw hA (fun v83 p82 H locs hp82 hw => ?_) | (refine px_calli (pr := [wdP cs h r g tf ta pf na ma wa cf ca ef ea xf xa]) (px_runV (As := [.ref sk79]) (rest := []) S (c_sg_equals l D cs sk2 st3 (mlen z1.toNatClampNeg) (mby z1.toNatClampNeg) sk79 st80 2 (lby "<=")   (show (mlen z1.toNatClampNeg) ≤ 1000000 from by first | exact oz_f8a16524ad e7 nc9 | omega) (show 2 ≤ 1000000 from by omega) _) hT (pr := [wdP cs h r g tf ta pf na ma wa cf ca ef ea xf xa]) (pcs := []) hw (oX_call (P := (fun A U H => (oZ A U H) ∧ (oS A sk2 st3 (mlen z1.toNatClampNeg) (mby z1.toNatClampNeg) U H) ∧ (oS A sk79 st80 2 (lby "<=") U H))) (pr := [wdP cs h r g tf ta pf na ma wa cf ca ef ea xf xa]) (oG_and oG_Z (oG_and oG_S oG_S)) hw hA ⟨hZ, hSsk2, hSsk79⟩) (oS_recv hw hSsk2) m11_225 m11_222 m11_223 m11_224 m1_3 q_String_equals ⟨Nat.le_of_ble_eq_true rfl, Nat.le_of_ble_eq_true rfl⟩ hl.1 rfl (Nat.le_of_ble_eq_true rfl) d_Mpg_two_72 ⟨Nat.le_of_ble_eq_true rfl, Nat.le_of_ble_eq_true rfl⟩) hw hA (fun v83 p82 H locs hp82 hw => ?_))
        obtain ⟨rfl, e84, e85⟩ := hp82
        have e84 := z_rng e84
        have e85 : R_sg_equals (mlen z1.toNatClampNeg) (mby z1.toNatClampNeg) 2 (lby "<=") v83 := e85
        have lv83 := Int32.le_toInt v83
        have uv83 := Int32.toInt_lt v83
        refine lv_if_eq (tgt := 91) S.x S.b d_Mpg_two_75 (by decide) (fun c86 => ?_) (fun c86 => ?_)
        · have nc86 : v83.toInt = (0 : Int) := (i_eq (x := v83) (y := 0)).mp c86
          refine lv_iload_n S.x S.b d_Mpg_two_91 rfl (lv_at hl 3 rfl) ?_
          refine lv_iload_n S.x S.b d_Mpg_two_92 rfl (lv_at hl 4 rfl) ?_
          refine lv_icmp_lt (tgt := 100) S.x S.b d_Mpg_two_93 (by decide) (fun c88 => ?_) (fun c88 => ?_)
          · have nc88 : p1.toInt < p2.toInt := (i_lt (x := p1) (y := p2)).mp c88
            refine lv_iconst (v := 0) S.x S.b d_Mpg_two_100 (by decide) ?_
            refine lv_istore (lv' := [(5, .int 0), (4, .ref sk2), (0, .ref h), (1, .int p0), (2, .int p1), (3, .int p2)]) S.x S.b d_Mpg_two_101 hl (by decide) rfl (fun ls hl => ?_)
            refine lv_aload S.x S.b d_Mpg_two_103 (lv_at hl 1 rfl) ?_
            obtain ⟨sk90, hRsk90, st91, hSsk90⟩ := oP_litB hP (k := 79) (tx := "<<") (n := 2) (List.mem_of_getElem? (i := 31) rfl)
            refine va_ldcS S.x S.b S.own hRsk90 d_Mpg_two_105 ?_
            first | refine px_calli (pr := [wdP cs h r g tf ta pf na ma wa cf ca ef ea xf xa]) (px_runV (As := [.ref sk90]) (rest := []) S (c_sg_equals l D cs sk2 st3 (mlen z1.toNatClampNeg) (mby z1.toNatClampNeg) sk90 st91 2 (lby "<<")   (show (mlen z1.toNatClampNeg) ≤ 1000000 from (oz_f8a16524ad e7 nc9)) (show 2 ≤ 1000000 from by omega) _) hT (pr := [wdP cs h r g tf ta pf na ma wa cf ca ef ea xf xa]) (pcs := []) hw (oX_call (P := (fun A U H => (oZ A U H) ∧ (oS A sk2 st3 (mlen z1.toNatClampNeg) (mby z1.toNatClampNeg) U H) ∧ (oS A sk90 st91 2 (lby "<<") U H))) (pr := [wdP cs h r g tf ta pf na ma wa cf ca ef ea xf xa]) (oG_and oG_Z (oG_and oG_S oG_S)) hw hA ⟨hZ, hSsk2, hSsk90⟩) (oS_recv hw hSsk2) m11_225 m11_222 m11_223 m11_224 m1_3 q_String_equals ⟨Nat.le_of_ble_eq_true rfl, Nat.le_of_ble_eq_true rfl⟩ hl.1 rfl (Nat.le_of_ble_eq_true rfl) d_Mpg_two_107 ⟨Nat.le_of_ble_eq_true rfl, Nat.le_of_ble_eq_true rfl⟩) hw hA (fun v94 p93 H locs hp93 hw => ?_) | (refine px_calli (pr := [wdP cs h r g tf ta pf na ma wa cf ca ef ea xf xa]) (px_runV (As := [.ref sk90]) (rest := []) S (c_sg_equals l D cs sk2 st3 (mlen z1.toNatClampNeg) (mby z1.toNatClampNeg) sk90 st91 2 (lby "<<")   (show (mlen z1.toNatClampNeg) ≤ 1000000 from by first | exact oz_f8a16524ad e7 nc9 | omega) (show 2 ≤ 1000000 from by omega) _) hT (pr := [wdP cs h r g tf ta pf na ma wa cf ca ef ea xf xa]) (pcs := []) hw (oX_call (P := (fun A U H => (oZ A U H) ∧ (oS A sk2 st3 (mlen z1.toNatClampNeg) (mby z1.toNatClampNeg) U H) ∧ (oS A sk90 st91 2 (lby "<<") U H))) (pr := [wdP cs h r g tf ta pf na ma wa cf ca ef ea xf xa]) (oG_and oG_Z (oG_and oG_S oG_S)) hw hA ⟨hZ, hSsk2, hSsk90⟩) (oS_recv hw hSsk2) m11_225 m11_222 m11_223 m11_224 m1_3 q_String_equals ⟨Nat.le_of_ble_eq_true rfl, Nat.le_of_ble_eq_true rfl⟩ hl.1 rfl (Nat.le_of_ble_eq_true rfl) d_Mpg_two_107 ⟨Nat.le_of_ble_eq_true rfl, Nat.le_of_ble_eq_true rfl⟩) hw hA (fun v94 p93 H locs hp93 hw => ?_))
            obtain ⟨rfl, e95, e96⟩ := hp93
            have e95 := z_rng e95
            have e96 : R_sg_equals (mlen z1.toNatClampNeg) (mby z1.toNatClampNeg) 2 (lby "<<") v94 := e96
            have lv94 := Int32.le_toInt v94
            have uv94 := Int32.toInt_lt v94
            refine lv_if_eq (tgt := 119) S.x S.b d_Mpg_two_110 (by decide) (fun c97 => ?_) (fun c97 => ?_)
            · have nc97 : v94.toInt = (0 : Int) := (i_eq (x := v94) (y := 0)).mp c97
              refine lv_aload S.x S.b d_Mpg_two_119 (lv_at hl 1 rfl) ?_
              obtain ⟨sk99, hRsk99, st100, hSsk99⟩ := oP_litB hP (k := 81) (tx := ">>") (n := 2) (List.mem_of_getElem? (i := 32) rfl)
              refine va_ldcS S.x S.b S.own hRsk99 d_Mpg_two_121 ?_
              first | refine px_calli (pr := [wdP cs h r g tf ta pf na ma wa cf ca ef ea xf xa]) (px_runV (As := [.ref sk99]) (rest := []) S (c_sg_equals l D cs sk2 st3 (mlen z1.toNatClampNeg) (mby z1.toNatClampNeg) sk99 st100 2 (lby ">>")   (show (mlen z1.toNatClampNeg) ≤ 1000000 from (oz_f8a16524ad e7 nc9)) (show 2 ≤ 1000000 from by omega) _) hT (pr := [wdP cs h r g tf ta pf na ma wa cf ca ef ea xf xa]) (pcs := []) hw (oX_call (P := (fun A U H => (oZ A U H) ∧ (oS A sk2 st3 (mlen z1.toNatClampNeg) (mby z1.toNatClampNeg) U H) ∧ (oS A sk99 st100 2 (lby ">>") U H))) (pr := [wdP cs h r g tf ta pf na ma wa cf ca ef ea xf xa]) (oG_and oG_Z (oG_and oG_S oG_S)) hw hA ⟨hZ, hSsk2, hSsk99⟩) (oS_recv hw hSsk2) m11_225 m11_222 m11_223 m11_224 m1_3 q_String_equals ⟨Nat.le_of_ble_eq_true rfl, Nat.le_of_ble_eq_true rfl⟩ hl.1 rfl (Nat.le_of_ble_eq_true rfl) d_Mpg_two_123 ⟨Nat.le_of_ble_eq_true rfl, Nat.le_of_ble_eq_true rfl⟩) hw hA (fun v103 p102 H locs hp102 hw => ?_) | (refine px_calli (pr := [wdP cs h r g tf ta pf na ma wa cf ca ef ea xf xa]) (px_runV (As := [.ref sk99]) (rest := []) S (c_sg_equals l D cs sk2 st3 (mlen z1.toNatClampNeg) (mby z1.toNatClampNeg) sk99 st100 2 (lby ">>")   (show (mlen z1.toNatClampNeg) ≤ 1000000 from by first | exact oz_f8a16524ad e7 nc9 | omega) (show 2 ≤ 1000000 from by omega) _) hT (pr := [wdP cs h r g tf ta pf na ma wa cf ca ef ea xf xa]) (pcs := []) hw (oX_call (P := (fun A U H => (oZ A U H) ∧ (oS A sk2 st3 (mlen z1.toNatClampNeg) (mby z1.toNatClampNeg) U H) ∧ (oS A sk99 st100 2 (lby ">>") U H))) (pr := [wdP cs h r g tf ta pf na ma wa cf ca ef ea xf xa]) (oG_and oG_Z (oG_and oG_S oG_S)) hw hA ⟨hZ, hSsk2, hSsk99⟩) (oS_recv hw hSsk2) m11_225 m11_222 m11_223 m11_224 m1_3 q_String_equals ⟨Nat.le_of_ble_eq_true rfl, Nat.le_of_ble_eq_true rfl⟩ hl.1 rfl (Nat.le_of_ble_eq_true rfl) d_Mpg_two_123 ⟨Nat.le_of_ble_eq_true rfl, Nat.le_of_ble_eq_true rfl⟩) hw hA (fun v103 p102 H locs hp102 hw => ?_))
              obtain ⟨rfl, e104, e105⟩ := hp102
              have e104 := z_rng e104
              have e105 : R_sg_equals (mlen z1.toNatClampNeg) (mby z1.toNatClampNeg) 2 (lby ">>") v103 := e105
              have lv103 := Int32.le_toInt v103
              have uv103 := Int32.toInt_lt v103
              refine lv_if_eq (tgt := 135) S.x S.b d_Mpg_two_126 (by decide) (fun c106 => ?_) (fun c106 => ?_)
              · have nc106 : v103.toInt = (0 : Int) := (i_eq (x := v103) (y := 0)).mp c106
                refine lv_iload S.x S.b d_Mpg_two_135 (lv_at hl 0 rfl) ?_
                refine lv_if_eq (tgt := 144) S.x S.b d_Mpg_two_137 (by decide) (fun c108 => ?_) (fun c108 => ?_)
                ·
                  refine lv_iconst (v := 0) S.x S.b d_Mpg_two_144 (by decide) ?_
                  exact px_iret (v := 0) S hr rfl hlk hAe hw (Nat.le_of_ble_eq_true rfl) (Nat.le_of_ble_eq_true rfl) (⟨cf, rfl, (show KpE cf cf from hke), (show WrV cf (tf 6).toInt from hwr), (show (cf 33).toInt = (cf 33).toInt from rfl), (show (cf 38).toInt = (cf 38).toInt from rfl), (show (cf 48).toInt = (cf 48).toInt from rfl), (show (cf 47).toInt = (cf 47).toInt from rfl), (show R_mp_two ta p0 p1 p2 cf cf (0 : Int32) from (Or.inl ⟨z1, ez1, v6, e8, Or.inr ⟨nc9, v65, e67, Or.inl ⟨nc68, v74, e76, Or.inl ⟨nc77, v83, e85, Or.inl ⟨nc86, Or.inl ⟨nc88, v94, e96, Or.inl ⟨nc97, v103, e105, Or.inl ⟨nc106, rfl, rfl⟩⟩⟩⟩⟩⟩⟩⟩))⟩) d_Mpg_two_145
                · exact absurd c108 (by decide)
              · have nc106 : ¬ v103.toInt = (0 : Int) := mt (i_eq (x := v103) (y := 0)).mpr c106
                refine lv_iload_n S.x S.b d_Mpg_two_129 rfl (lv_at hl 4 rfl) ?_
                refine lv_iload_n S.x S.b d_Mpg_two_130 rfl (lv_at hl 5 rfl) ?_
                refine lv_ishr S.x S.b d_Mpg_two_131 ?_
                refine lv_topi (fun z109 ez109 => ?_)
                have lz109 := Int32.le_toInt z109
                have uz109 := Int32.toInt_lt z109
                refine lv_goto (tgt := 145) S.x S.b d_Mpg_two_132 (by decide) ?_
                exact px_iret (v := z109) S hr rfl hlk hAe hw (Nat.le_of_ble_eq_true rfl) (Nat.le_of_ble_eq_true rfl) (⟨cf, rfl, (show KpE cf cf from hke), (show WrV cf (tf 6).toInt from hwr), (show (cf 33).toInt = (cf 33).toInt from rfl), (show (cf 38).toInt = (cf 38).toInt from rfl), (show (cf 48).toInt = (cf 48).toInt from rfl), (show (cf 47).toInt = (cf 47).toInt from rfl), (show R_mp_two ta p0 p1 p2 cf cf z109 from (Or.inl ⟨z1, ez1, v6, e8, Or.inr ⟨nc9, v65, e67, Or.inl ⟨nc68, v74, e76, Or.inl ⟨nc77, v83, e85, Or.inl ⟨nc86, Or.inl ⟨nc88, v94, e96, Or.inl ⟨nc97, v103, e105, Or.inr ⟨nc106, z109, ez109, rfl, rfl⟩⟩⟩⟩⟩⟩⟩⟩))⟩) d_Mpg_two_145
            · have nc97 : ¬ v94.toInt = (0 : Int) := mt (i_eq (x := v94) (y := 0)).mpr c97
              refine lv_iload_n S.x S.b d_Mpg_two_113 rfl (lv_at hl 4 rfl) ?_
              refine lv_iload_n S.x S.b d_Mpg_two_114 rfl (lv_at hl 5 rfl) ?_
              refine lv_ishl S.x S.b d_Mpg_two_115 ?_
              refine lv_topi (fun z110 ez110 => ?_)
              have lz110 := Int32.le_toInt z110
              have uz110 := Int32.toInt_lt z110
              refine lv_goto (tgt := 145) S.x S.b d_Mpg_two_116 (by decide) ?_
              exact px_iret (v := z110) S hr rfl hlk hAe hw (Nat.le_of_ble_eq_true rfl) (Nat.le_of_ble_eq_true rfl) (⟨cf, rfl, (show KpE cf cf from hke), (show WrV cf (tf 6).toInt from hwr), (show (cf 33).toInt = (cf 33).toInt from rfl), (show (cf 38).toInt = (cf 38).toInt from rfl), (show (cf 48).toInt = (cf 48).toInt from rfl), (show (cf 47).toInt = (cf 47).toInt from rfl), (show R_mp_two ta p0 p1 p2 cf cf z110 from (Or.inl ⟨z1, ez1, v6, e8, Or.inr ⟨nc9, v65, e67, Or.inl ⟨nc68, v74, e76, Or.inl ⟨nc77, v83, e85, Or.inl ⟨nc86, Or.inl ⟨nc88, v94, e96, Or.inr ⟨nc97, z110, ez110, rfl, rfl⟩⟩⟩⟩⟩⟩⟩))⟩) d_Mpg_two_145
          · have nc88 : ¬ p1.toInt < p2.toInt := mt (i_lt (x := p1) (y := p2)).mpr c88
            refine lv_iconst (v := 1) S.x S.b d_Mpg_two_96 (by decide) ?_
            refine lv_goto (tgt := 101) S.x S.b d_Mpg_two_97 (by decide) ?_
            refine lv_istore (lv' := [(5, .int 1), (4, .ref sk2), (0, .ref h), (1, .int p0), (2, .int p1), (3, .int p2)]) S.x S.b d_Mpg_two_101 hl (by decide) rfl (fun ls hl => ?_)
            refine lv_aload S.x S.b d_Mpg_two_103 (lv_at hl 1 rfl) ?_
            obtain ⟨sk111, hRsk111, st112, hSsk111⟩ := oP_litB hP (k := 79) (tx := "<<") (n := 2) (List.mem_of_getElem? (i := 31) rfl)
            refine va_ldcS S.x S.b S.own hRsk111 d_Mpg_two_105 ?_
            first | refine px_calli (pr := [wdP cs h r g tf ta pf na ma wa cf ca ef ea xf xa]) (px_runV (As := [.ref sk111]) (rest := []) S (c_sg_equals l D cs sk2 st3 (mlen z1.toNatClampNeg) (mby z1.toNatClampNeg) sk111 st112 2 (lby "<<")   (show (mlen z1.toNatClampNeg) ≤ 1000000 from (oz_f8a16524ad e7 nc9)) (show 2 ≤ 1000000 from by omega) _) hT (pr := [wdP cs h r g tf ta pf na ma wa cf ca ef ea xf xa]) (pcs := []) hw (oX_call (P := (fun A U H => (oZ A U H) ∧ (oS A sk2 st3 (mlen z1.toNatClampNeg) (mby z1.toNatClampNeg) U H) ∧ (oS A sk111 st112 2 (lby "<<") U H))) (pr := [wdP cs h r g tf ta pf na ma wa cf ca ef ea xf xa]) (oG_and oG_Z (oG_and oG_S oG_S)) hw hA ⟨hZ, hSsk2, hSsk111⟩) (oS_recv hw hSsk2) m11_225 m11_222 m11_223 m11_224 m1_3 q_String_equals ⟨Nat.le_of_ble_eq_true rfl, Nat.le_of_ble_eq_true rfl⟩ hl.1 rfl (Nat.le_of_ble_eq_true rfl) d_Mpg_two_107 ⟨Nat.le_of_ble_eq_true rfl, Nat.le_of_ble_eq_true rfl⟩) hw hA (fun v115 p114 H locs hp114 hw => ?_) | (refine px_calli (pr := [wdP cs h r g tf ta pf na ma wa cf ca ef ea xf xa]) (px_runV (As := [.ref sk111]) (rest := []) S (c_sg_equals l D cs sk2 st3 (mlen z1.toNatClampNeg) (mby z1.toNatClampNeg) sk111 st112 2 (lby "<<")   (show (mlen z1.toNatClampNeg) ≤ 1000000 from by first | exact oz_f8a16524ad e7 nc9 | omega) (show 2 ≤ 1000000 from by omega) _) hT (pr := [wdP cs h r g tf ta pf na ma wa cf ca ef ea xf xa]) (pcs := []) hw (oX_call (P := (fun A U H => (oZ A U H) ∧ (oS A sk2 st3 (mlen z1.toNatClampNeg) (mby z1.toNatClampNeg) U H) ∧ (oS A sk111 st112 2 (lby "<<") U H))) (pr := [wdP cs h r g tf ta pf na ma wa cf ca ef ea xf xa]) (oG_and oG_Z (oG_and oG_S oG_S)) hw hA ⟨hZ, hSsk2, hSsk111⟩) (oS_recv hw hSsk2) m11_225 m11_222 m11_223 m11_224 m1_3 q_String_equals ⟨Nat.le_of_ble_eq_true rfl, Nat.le_of_ble_eq_true rfl⟩ hl.1 rfl (Nat.le_of_ble_eq_true rfl) d_Mpg_two_107 ⟨Nat.le_of_ble_eq_true rfl, Nat.le_of_ble_eq_true rfl⟩) hw hA (fun v115 p114 H locs hp114 hw => ?_))
            obtain ⟨rfl, e116, e117⟩ := hp114
            have e116 := z_rng e116
            have e117 : R_sg_equals (mlen z1.toNatClampNeg) (mby z1.toNatClampNeg) 2 (lby "<<") v115 := e117
            have lv115 := Int32.le_toInt v115
            have uv115 := Int32.toInt_lt v115
            refine lv_if_eq (tgt := 119) S.x S.b d_Mpg_two_110 (by decide) (fun c118 => ?_) (fun c118 => ?_)
            · have nc118 : v115.toInt = (0 : Int) := (i_eq (x := v115) (y := 0)).mp c118
              refine lv_aload S.x S.b d_Mpg_two_119 (lv_at hl 1 rfl) ?_
              obtain ⟨sk120, hRsk120, st121, hSsk120⟩ := oP_litB hP (k := 81) (tx := ">>") (n := 2) (List.mem_of_getElem? (i := 32) rfl)
              refine va_ldcS S.x S.b S.own hRsk120 d_Mpg_two_121 ?_
              first | refine px_calli (pr := [wdP cs h r g tf ta pf na ma wa cf ca ef ea xf xa]) (px_runV (As := [.ref sk120]) (rest := []) S (c_sg_equals l D cs sk2 st3 (mlen z1.toNatClampNeg) (mby z1.toNatClampNeg) sk120 st121 2 (lby ">>")   (show (mlen z1.toNatClampNeg) ≤ 1000000 from (oz_f8a16524ad e7 nc9)) (show 2 ≤ 1000000 from by omega) _) hT (pr := [wdP cs h r g tf ta pf na ma wa cf ca ef ea xf xa]) (pcs := []) hw (oX_call (P := (fun A U H => (oZ A U H) ∧ (oS A sk2 st3 (mlen z1.toNatClampNeg) (mby z1.toNatClampNeg) U H) ∧ (oS A sk120 st121 2 (lby ">>") U H))) (pr := [wdP cs h r g tf ta pf na ma wa cf ca ef ea xf xa]) (oG_and oG_Z (oG_and oG_S oG_S)) hw hA ⟨hZ, hSsk2, hSsk120⟩) (oS_recv hw hSsk2) m11_225 m11_222 m11_223 m11_224 m1_3 q_String_equals ⟨Nat.le_of_ble_eq_true rfl, Nat.le_of_ble_eq_true rfl⟩ hl.1 rfl (Nat.le_of_ble_eq_true rfl) d_Mpg_two_123 ⟨Nat.le_of_ble_eq_true rfl, Nat.le_of_ble_eq_true rfl⟩) hw hA (fun v124 p123 H locs hp123 hw => ?_) | (refine px_calli (pr := [wdP cs h r g tf ta pf na ma wa cf ca ef ea xf xa]) (px_runV (As := [.ref sk120]) (rest := []) S (c_sg_equals l D cs sk2 st3 (mlen z1.toNatClampNeg) (mby z1.toNatClampNeg) sk120 st121 2 (lby ">>")   (show (mlen z1.toNatClampNeg) ≤ 1000000 from by first | exact oz_f8a16524ad e7 nc9 | omega) (show 2 ≤ 1000000 from by omega) _) hT (pr := [wdP cs h r g tf ta pf na ma wa cf ca ef ea xf xa]) (pcs := []) hw (oX_call (P := (fun A U H => (oZ A U H) ∧ (oS A sk2 st3 (mlen z1.toNatClampNeg) (mby z1.toNatClampNeg) U H) ∧ (oS A sk120 st121 2 (lby ">>") U H))) (pr := [wdP cs h r g tf ta pf na ma wa cf ca ef ea xf xa]) (oG_and oG_Z (oG_and oG_S oG_S)) hw hA ⟨hZ, hSsk2, hSsk120⟩) (oS_recv hw hSsk2) m11_225 m11_222 m11_223 m11_224 m1_3 q_String_equals ⟨Nat.le_of_ble_eq_true rfl, Nat.le_of_ble_eq_true rfl⟩ hl.1 rfl (Nat.le_of_ble_eq_true rfl) d_Mpg_two_123 ⟨Nat.le_of_ble_eq_true rfl, Nat.le_of_ble_eq_true rfl⟩) hw hA (fun v124 p123 H locs hp123 hw => ?_))
              obtain ⟨rfl, e125, e126⟩ := hp123
              have e125 := z_rng e125
              have e126 : R_sg_equals (mlen z1.toNatClampNeg) (mby z1.toNatClampNeg) 2 (lby ">>") v124 := e126
              have lv124 := Int32.le_toInt v124
              have uv124 := Int32.toInt_lt v124
              refine lv_if_eq (tgt := 135) S.x S.b d_Mpg_two_126 (by decide) (fun c127 => ?_) (fun c127 => ?_)
              · have nc127 : v124.toInt = (0 : Int) := (i_eq (x := v124) (y := 0)).mp c127
                refine lv_iload S.x S.b d_Mpg_two_135 (lv_at hl 0 rfl) ?_
                refine lv_if_eq (tgt := 144) S.x S.b d_Mpg_two_137 (by decide) (fun c129 => ?_) (fun c129 => ?_)
                · exact absurd c129 (by decide)
                ·
                  refine lv_iconst (v := 1) S.x S.b d_Mpg_two_140 (by decide) ?_
                  refine lv_goto (tgt := 145) S.x S.b d_Mpg_two_141 (by decide) ?_
                  exact px_iret (v := 1) S hr rfl hlk hAe hw (Nat.le_of_ble_eq_true rfl) (Nat.le_of_ble_eq_true rfl) (⟨cf, rfl, (show KpE cf cf from hke), (show WrV cf (tf 6).toInt from hwr), (show (cf 33).toInt = (cf 33).toInt from rfl), (show (cf 38).toInt = (cf 38).toInt from rfl), (show (cf 48).toInt = (cf 48).toInt from rfl), (show (cf 47).toInt = (cf 47).toInt from rfl), (show R_mp_two ta p0 p1 p2 cf cf (1 : Int32) from (Or.inl ⟨z1, ez1, v6, e8, Or.inr ⟨nc9, v65, e67, Or.inl ⟨nc68, v74, e76, Or.inl ⟨nc77, v83, e85, Or.inl ⟨nc86, Or.inr ⟨nc88, v115, e117, Or.inl ⟨nc118, v124, e126, Or.inl ⟨nc127, rfl, rfl⟩⟩⟩⟩⟩⟩⟩⟩))⟩) d_Mpg_two_145
              · have nc127 : ¬ v124.toInt = (0 : Int) := mt (i_eq (x := v124) (y := 0)).mpr c127
                refine lv_iload_n S.x S.b d_Mpg_two_129 rfl (lv_at hl 4 rfl) ?_
                refine lv_iload_n S.x S.b d_Mpg_two_130 rfl (lv_at hl 5 rfl) ?_
                refine lv_ishr S.x S.b d_Mpg_two_131 ?_
                refine lv_topi (fun z130 ez130 => ?_)
                have lz130 := Int32.le_toInt z130
                have uz130 := Int32.toInt_lt z130
                refine lv_goto (tgt := 145) S.x S.b d_Mpg_two_132 (by decide) ?_
                exact px_iret (v := z130) S hr rfl hlk hAe hw (Nat.le_of_ble_eq_true rfl) (Nat.le_of_ble_eq_true rfl) (⟨cf, rfl, (show KpE cf cf from hke), (show WrV cf (tf 6).toInt from hwr), (show (cf 33).toInt = (cf 33).toInt from rfl), (show (cf 38).toInt = (cf 38).toInt from rfl), (show (cf 48).toInt = (cf 48).toInt from rfl), (show (cf 47).toInt = (cf 47).toInt from rfl), (show R_mp_two ta p0 p1 p2 cf cf z130 from (Or.inl ⟨z1, ez1, v6, e8, Or.inr ⟨nc9, v65, e67, Or.inl ⟨nc68, v74, e76, Or.inl ⟨nc77, v83, e85, Or.inl ⟨nc86, Or.inr ⟨nc88, v115, e117, Or.inl ⟨nc118, v124, e126, Or.inr ⟨nc127, z130, ez130, rfl, rfl⟩⟩⟩⟩⟩⟩⟩⟩))⟩) d_Mpg_two_145
            · have nc118 : ¬ v115.toInt = (0 : Int) := mt (i_eq (x := v115) (y := 0)).mpr c118
              refine lv_iload_n S.x S.b d_Mpg_two_113 rfl (lv_at hl 4 rfl) ?_
              refine lv_iload_n S.x S.b d_Mpg_two_114 rfl (lv_at hl 5 rfl) ?_
              refine lv_ishl S.x S.b d_Mpg_two_115 ?_
              refine lv_topi (fun z131 ez131 => ?_)
              have lz131 := Int32.le_toInt z131
              have uz131 := Int32.toInt_lt z131
              refine lv_goto (tgt := 145) S.x S.b d_Mpg_two_116 (by decide) ?_
              exact px_iret (v := z131) S hr rfl hlk hAe hw (Nat.le_of_ble_eq_true rfl) (Nat.le_of_ble_eq_true rfl) (⟨cf, rfl, (show KpE cf cf from hke), (show WrV cf (tf 6).toInt from hwr), (show (cf 33).toInt = (cf 33).toInt from rfl), (show (cf 38).toInt = (cf 38).toInt from rfl), (show (cf 48).toInt = (cf 48).toInt from rfl), (show (cf 47).toInt = (cf 47).toInt from rfl), (show R_mp_two ta p0 p1 p2 cf cf z131 from (Or.inl ⟨z1, ez1, v6, e8, Or.inr ⟨nc9, v65, e67, Or.inl ⟨nc68, v74, e76, Or.inl ⟨nc77, v83, e85, Or.inl ⟨nc86, Or.inr ⟨nc88, v115, e117, Or.inr ⟨nc118, z131, ez131, rfl, rfl⟩⟩⟩⟩⟩⟩⟩))⟩) d_Mpg_two_145
        · have nc86 : ¬ v83.toInt = (0 : Int) := mt (i_eq (x := v83) (y := 0)).mpr c86
          refine lv_iload_n S.x S.b d_Mpg_two_78 rfl (lv_at hl 3 rfl) ?_
          refine lv_iload_n S.x S.b d_Mpg_two_79 rfl (lv_at hl 4 rfl) ?_
          refine lv_icmp_gt (tgt := 87) S.x S.b d_Mpg_two_80 (by decide) (fun c132 => ?_) (fun c132 => ?_)
          · have nc132 : p2.toInt < p1.toInt := (i_lt (x := p2) (y := p1)).mp c132
            refine lv_iconst (v := 0) S.x S.b d_Mpg_two_87 (by decide) ?_
            refine lv_goto (tgt := 101) S.x S.b d_Mpg_two_88 (by decide) ?_
            refine lv_istore (lv' := [(5, .int 0), (4, .ref sk2), (0, .ref h), (1, .int p0), (2, .int p1), (3, .int p2)]) S.x S.b d_Mpg_two_101 hl (by decide) rfl (fun ls hl => ?_)
            refine lv_aload S.x S.b d_Mpg_two_103 (lv_at hl 1 rfl) ?_
            obtain ⟨sk134, hRsk134, st135, hSsk134⟩ := oP_litB hP (k := 79) (tx := "<<") (n := 2) (List.mem_of_getElem? (i := 31) rfl)
            refine va_ldcS S.x S.b S.own hRsk134 d_Mpg_two_105 ?_
            first | refine px_calli (pr := [wdP cs h r g tf ta pf na ma wa cf ca ef ea xf xa]) (px_runV (As := [.ref sk134]) (rest := []) S (c_sg_equals l D cs sk2 st3 (mlen z1.toNatClampNeg) (mby z1.toNatClampNeg) sk134 st135 2 (lby "<<")   (show (mlen z1.toNatClampNeg) ≤ 1000000 from (oz_f8a16524ad e7 nc9)) (show 2 ≤ 1000000 from by omega) _) hT (pr := [wdP cs h r g tf ta pf na ma wa cf ca ef ea xf xa]) (pcs := []) hw (oX_call (P := (fun A U H => (oZ A U H) ∧ (oS A sk2 st3 (mlen z1.toNatClampNeg) (mby z1.toNatClampNeg) U H) ∧ (oS A sk134 st135 2 (lby "<<") U H))) (pr := [wdP cs h r g tf ta pf na ma wa cf ca ef ea xf xa]) (oG_and oG_Z (oG_and oG_S oG_S)) hw hA ⟨hZ, hSsk2, hSsk134⟩) (oS_recv hw hSsk2) m11_225 m11_222 m11_223 m11_224 m1_3 q_String_equals ⟨Nat.le_of_ble_eq_true rfl, Nat.le_of_ble_eq_true rfl⟩ hl.1 rfl (Nat.le_of_ble_eq_true rfl) d_Mpg_two_107 ⟨Nat.le_of_ble_eq_true rfl, Nat.le_of_ble_eq_true rfl⟩) hw hA (fun v138 p137 H locs hp137 hw => ?_) | (refine px_calli (pr := [wdP cs h r g tf ta pf na ma wa cf ca ef ea xf xa]) (px_runV (As := [.ref sk134]) (rest := []) S (c_sg_equals l D cs sk2 st3 (mlen z1.toNatClampNeg) (mby z1.toNatClampNeg) sk134 st135 2 (lby "<<")   (show (mlen z1.toNatClampNeg) ≤ 1000000 from by first | exact oz_f8a16524ad e7 nc9 | omega) (show 2 ≤ 1000000 from by omega) _) hT (pr := [wdP cs h r g tf ta pf na ma wa cf ca ef ea xf xa]) (pcs := []) hw (oX_call (P := (fun A U H => (oZ A U H) ∧ (oS A sk2 st3 (mlen z1.toNatClampNeg) (mby z1.toNatClampNeg) U H) ∧ (oS A sk134 st135 2 (lby "<<") U H))) (pr := [wdP cs h r g tf ta pf na ma wa cf ca ef ea xf xa]) (oG_and oG_Z (oG_and oG_S oG_S)) hw hA ⟨hZ, hSsk2, hSsk134⟩) (oS_recv hw hSsk2) m11_225 m11_222 m11_223 m11_224 m1_3 q_String_equals ⟨Nat.le_of_ble_eq_true rfl, Nat.le_of_ble_eq_true rfl⟩ hl.1 rfl (Nat.le_of_ble_eq_true rfl) d_Mpg_two_107 ⟨Nat.le_of_ble_eq_true rfl, Nat.le_of_ble_eq_true rfl⟩) hw hA (fun v138 p137 H locs hp137 hw => ?_))
            obtain ⟨rfl, e139, e140⟩ := hp137
            have e139 := z_rng e139
            have e140 : R_sg_equals (mlen z1.toNatClampNeg) (mby z1.toNatClampNeg) 2 (lby "<<") v138 := e140
            have lv138 := Int32.le_toInt v138
            have uv138 := Int32.toInt_lt v138
            refine lv_if_eq (tgt := 119) S.x S.b d_Mpg_two_110 (by decide) (fun c141 => ?_) (fun c141 => ?_)
            · have nc141 : v138.toInt = (0 : Int) := (i_eq (x := v138) (y := 0)).mp c141
              refine lv_aload S.x S.b d_Mpg_two_119 (lv_at hl 1 rfl) ?_
              obtain ⟨sk143, hRsk143, st144, hSsk143⟩ := oP_litB hP (k := 81) (tx := ">>") (n := 2) (List.mem_of_getElem? (i := 32) rfl)
              refine va_ldcS S.x S.b S.own hRsk143 d_Mpg_two_121 ?_
              first | refine px_calli (pr := [wdP cs h r g tf ta pf na ma wa cf ca ef ea xf xa]) (px_runV (As := [.ref sk143]) (rest := []) S (c_sg_equals l D cs sk2 st3 (mlen z1.toNatClampNeg) (mby z1.toNatClampNeg) sk143 st144 2 (lby ">>")   (show (mlen z1.toNatClampNeg) ≤ 1000000 from (oz_f8a16524ad e7 nc9)) (show 2 ≤ 1000000 from by omega) _) hT (pr := [wdP cs h r g tf ta pf na ma wa cf ca ef ea xf xa]) (pcs := []) hw (oX_call (P := (fun A U H => (oZ A U H) ∧ (oS A sk2 st3 (mlen z1.toNatClampNeg) (mby z1.toNatClampNeg) U H) ∧ (oS A sk143 st144 2 (lby ">>") U H))) (pr := [wdP cs h r g tf ta pf na ma wa cf ca ef ea xf xa]) (oG_and oG_Z (oG_and oG_S oG_S)) hw hA ⟨hZ, hSsk2, hSsk143⟩) (oS_recv hw hSsk2) m11_225 m11_222 m11_223 m11_224 m1_3 q_String_equals ⟨Nat.le_of_ble_eq_true rfl, Nat.le_of_ble_eq_true rfl⟩ hl.1 rfl (Nat.le_of_ble_eq_true rfl) d_Mpg_two_123 ⟨Nat.le_of_ble_eq_true rfl, Nat.le_of_ble_eq_true rfl⟩) hw hA (fun v147 p146 H locs hp146 hw => ?_) | (refine px_calli (pr := [wdP cs h r g tf ta pf na ma wa cf ca ef ea xf xa]) (px_runV (As := [.ref sk143]) (rest := []) S (c_sg_equals l D cs sk2 st3 (mlen z1.toNatClampNeg) (mby z1.toNatClampNeg) sk143 st144 2 (lby ">>")   (show (mlen z1.toNatClampNeg) ≤ 1000000 from by first | exact oz_f8a16524ad e7 nc9 | omega) (show 2 ≤ 1000000 from by omega) _) hT (pr := [wdP cs h r g tf ta pf na ma wa cf ca ef ea xf xa]) (pcs := []) hw (oX_call (P := (fun A U H => (oZ A U H) ∧ (oS A sk2 st3 (mlen z1.toNatClampNeg) (mby z1.toNatClampNeg) U H) ∧ (oS A sk143 st144 2 (lby ">>") U H))) (pr := [wdP cs h r g tf ta pf na ma wa cf ca ef ea xf xa]) (oG_and oG_Z (oG_and oG_S oG_S)) hw hA ⟨hZ, hSsk2, hSsk143⟩) (oS_recv hw hSsk2) m11_225 m11_222 m11_223 m11_224 m1_3 q_String_equals ⟨Nat.le_of_ble_eq_true rfl, Nat.le_of_ble_eq_true rfl⟩ hl.1 rfl (Nat.le_of_ble_eq_true rfl) d_Mpg_two_123 ⟨Nat.le_of_ble_eq_true rfl, Nat.le_of_ble_eq_true rfl⟩) hw hA (fun v147 p146 H locs hp146 hw => ?_))
              obtain ⟨rfl, e148, e149⟩ := hp146
              have e148 := z_rng e148
              have e149 : R_sg_equals (mlen z1.toNatClampNeg) (mby z1.toNatClampNeg) 2 (lby ">>") v147 := e149
              have lv147 := Int32.le_toInt v147
              have uv147 := Int32.toInt_lt v147
              refine lv_if_eq (tgt := 135) S.x S.b d_Mpg_two_126 (by decide) (fun c150 => ?_) (fun c150 => ?_)
              · have nc150 : v147.toInt = (0 : Int) := (i_eq (x := v147) (y := 0)).mp c150
                refine lv_iload S.x S.b d_Mpg_two_135 (lv_at hl 0 rfl) ?_
                refine lv_if_eq (tgt := 144) S.x S.b d_Mpg_two_137 (by decide) (fun c152 => ?_) (fun c152 => ?_)
                ·
                  refine lv_iconst (v := 0) S.x S.b d_Mpg_two_144 (by decide) ?_
                  exact px_iret (v := 0) S hr rfl hlk hAe hw (Nat.le_of_ble_eq_true rfl) (Nat.le_of_ble_eq_true rfl) (⟨cf, rfl, (show KpE cf cf from hke), (show WrV cf (tf 6).toInt from hwr), (show (cf 33).toInt = (cf 33).toInt from rfl), (show (cf 38).toInt = (cf 38).toInt from rfl), (show (cf 48).toInt = (cf 48).toInt from rfl), (show (cf 47).toInt = (cf 47).toInt from rfl), (show R_mp_two ta p0 p1 p2 cf cf (0 : Int32) from (Or.inl ⟨z1, ez1, v6, e8, Or.inr ⟨nc9, v65, e67, Or.inl ⟨nc68, v74, e76, Or.inl ⟨nc77, v83, e85, Or.inr ⟨nc86, Or.inl ⟨nc132, v138, e140, Or.inl ⟨nc141, v147, e149, Or.inl ⟨nc150, rfl, rfl⟩⟩⟩⟩⟩⟩⟩⟩))⟩) d_Mpg_two_145
                · exact absurd c152 (by decide)
              · have nc150 : ¬ v147.toInt = (0 : Int) := mt (i_eq (x := v147) (y := 0)).mpr c150
                refine lv_iload_n S.x S.b d_Mpg_two_129 rfl (lv_at hl 4 rfl) ?_
                refine lv_iload_n S.x S.b d_Mpg_two_130 rfl (lv_at hl 5 rfl) ?_
                refine lv_ishr S.x S.b d_Mpg_two_131 ?_
                refine lv_topi (fun z153 ez153 => ?_)
                have lz153 := Int32.le_toInt z153
                have uz153 := Int32.toInt_lt z153
                refine lv_goto (tgt := 145) S.x S.b d_Mpg_two_132 (by decide) ?_
                exact px_iret (v := z153) S hr rfl hlk hAe hw (Nat.le_of_ble_eq_true rfl) (Nat.le_of_ble_eq_true rfl) (⟨cf, rfl, (show KpE cf cf from hke), (show WrV cf (tf 6).toInt from hwr), (show (cf 33).toInt = (cf 33).toInt from rfl), (show (cf 38).toInt = (cf 38).toInt from rfl), (show (cf 48).toInt = (cf 48).toInt from rfl), (show (cf 47).toInt = (cf 47).toInt from rfl), (show R_mp_two ta p0 p1 p2 cf cf z153 from (Or.inl ⟨z1, ez1, v6, e8, Or.inr ⟨nc9, v65, e67, Or.inl ⟨nc68, v74, e76, Or.inl ⟨nc77, v83, e85, Or.inr ⟨nc86, Or.inl ⟨nc132, v138, e140, Or.inl ⟨nc141, v147, e149, Or.inr ⟨nc150, z153, ez153, rfl, rfl⟩⟩⟩⟩⟩⟩⟩⟩))⟩) d_Mpg_two_145
            · have nc141 : ¬ v138.toInt = (0 : Int) := mt (i_eq (x := v138) (y := 0)).mpr c141
              refine lv_iload_n S.x S.b d_Mpg_two_113 rfl (lv_at hl 4 rfl) ?_
              refine lv_iload_n S.x S.b d_Mpg_two_114 rfl (lv_at hl 5 rfl) ?_
              refine lv_ishl S.x S.b d_Mpg_two_115 ?_
              refine lv_topi (fun z154 ez154 => ?_)
              have lz154 := Int32.le_toInt z154
              have uz154 := Int32.toInt_lt z154
              refine lv_goto (tgt := 145) S.x S.b d_Mpg_two_116 (by decide) ?_
              exact px_iret (v := z154) S hr rfl hlk hAe hw (Nat.le_of_ble_eq_true rfl) (Nat.le_of_ble_eq_true rfl) (⟨cf, rfl, (show KpE cf cf from hke), (show WrV cf (tf 6).toInt from hwr), (show (cf 33).toInt = (cf 33).toInt from rfl), (show (cf 38).toInt = (cf 38).toInt from rfl), (show (cf 48).toInt = (cf 48).toInt from rfl), (show (cf 47).toInt = (cf 47).toInt from rfl), (show R_mp_two ta p0 p1 p2 cf cf z154 from (Or.inl ⟨z1, ez1, v6, e8, Or.inr ⟨nc9, v65, e67, Or.inl ⟨nc68, v74, e76, Or.inl ⟨nc77, v83, e85, Or.inr ⟨nc86, Or.inl ⟨nc132, v138, e140, Or.inr ⟨nc141, z154, ez154, rfl, rfl⟩⟩⟩⟩⟩⟩⟩))⟩) d_Mpg_two_145
          · have nc132 : ¬ p2.toInt < p1.toInt := mt (i_lt (x := p2) (y := p1)).mpr c132
            refine lv_iconst (v := 1) S.x S.b d_Mpg_two_83 (by decide) ?_
            refine lv_goto (tgt := 101) S.x S.b d_Mpg_two_84 (by decide) ?_
            refine lv_istore (lv' := [(5, .int 1), (4, .ref sk2), (0, .ref h), (1, .int p0), (2, .int p1), (3, .int p2)]) S.x S.b d_Mpg_two_101 hl (by decide) rfl (fun ls hl => ?_)
            refine lv_aload S.x S.b d_Mpg_two_103 (lv_at hl 1 rfl) ?_
            obtain ⟨sk155, hRsk155, st156, hSsk155⟩ := oP_litB hP (k := 79) (tx := "<<") (n := 2) (List.mem_of_getElem? (i := 31) rfl)
            refine va_ldcS S.x S.b S.own hRsk155 d_Mpg_two_105 ?_
            first | refine px_calli (pr := [wdP cs h r g tf ta pf na ma wa cf ca ef ea xf xa]) (px_runV (As := [.ref sk155]) (rest := []) S (c_sg_equals l D cs sk2 st3 (mlen z1.toNatClampNeg) (mby z1.toNatClampNeg) sk155 st156 2 (lby "<<")   (show (mlen z1.toNatClampNeg) ≤ 1000000 from (oz_f8a16524ad e7 nc9)) (show 2 ≤ 1000000 from by omega) _) hT (pr := [wdP cs h r g tf ta pf na ma wa cf ca ef ea xf xa]) (pcs := []) hw (oX_call (P := (fun A U H => (oZ A U H) ∧ (oS A sk2 st3 (mlen z1.toNatClampNeg) (mby z1.toNatClampNeg) U H) ∧ (oS A sk155 st156 2 (lby "<<") U H))) (pr := [wdP cs h r g tf ta pf na ma wa cf ca ef ea xf xa]) (oG_and oG_Z (oG_and oG_S oG_S)) hw hA ⟨hZ, hSsk2, hSsk155⟩) (oS_recv hw hSsk2) m11_225 m11_222 m11_223 m11_224 m1_3 q_String_equals ⟨Nat.le_of_ble_eq_true rfl, Nat.le_of_ble_eq_true rfl⟩ hl.1 rfl (Nat.le_of_ble_eq_true rfl) d_Mpg_two_107 ⟨Nat.le_of_ble_eq_true rfl, Nat.le_of_ble_eq_true rfl⟩) hw hA (fun v159 p158 H locs hp158 hw => ?_) | (refine px_calli (pr := [wdP cs h r g tf ta pf na ma wa cf ca ef ea xf xa]) (px_runV (As := [.ref sk155]) (rest := []) S (c_sg_equals l D cs sk2 st3 (mlen z1.toNatClampNeg) (mby z1.toNatClampNeg) sk155 st156 2 (lby "<<")   (show (mlen z1.toNatClampNeg) ≤ 1000000 from by first | exact oz_f8a16524ad e7 nc9 | omega) (show 2 ≤ 1000000 from by omega) _) hT (pr := [wdP cs h r g tf ta pf na ma wa cf ca ef ea xf xa]) (pcs := []) hw (oX_call (P := (fun A U H => (oZ A U H) ∧ (oS A sk2 st3 (mlen z1.toNatClampNeg) (mby z1.toNatClampNeg) U H) ∧ (oS A sk155 st156 2 (lby "<<") U H))) (pr := [wdP cs h r g tf ta pf na ma wa cf ca ef ea xf xa]) (oG_and oG_Z (oG_and oG_S oG_S)) hw hA ⟨hZ, hSsk2, hSsk155⟩) (oS_recv hw hSsk2) m11_225 m11_222 m11_223 m11_224 m1_3 q_String_equals ⟨Nat.le_of_ble_eq_true rfl, Nat.le_of_ble_eq_true rfl⟩ hl.1 rfl (Nat.le_of_ble_eq_true rfl) d_Mpg_two_107 ⟨Nat.le_of_ble_eq_true rfl, Nat.le_of_ble_eq_true rfl⟩) hw hA (fun v159 p158 H locs hp158 hw => ?_))
            obtain ⟨rfl, e160, e161⟩ := hp158
            have e160 := z_rng e160
            have e161 : R_sg_equals (mlen z1.toNatClampNeg) (mby z1.toNatClampNeg) 2 (lby "<<") v159 := e161
            have lv159 := Int32.le_toInt v159
            have uv159 := Int32.toInt_lt v159
            refine lv_if_eq (tgt := 119) S.x S.b d_Mpg_two_110 (by decide) (fun c162 => ?_) (fun c162 => ?_)
            · have nc162 : v159.toInt = (0 : Int) := (i_eq (x := v159) (y := 0)).mp c162
              refine lv_aload S.x S.b d_Mpg_two_119 (lv_at hl 1 rfl) ?_
              obtain ⟨sk164, hRsk164, st165, hSsk164⟩ := oP_litB hP (k := 81) (tx := ">>") (n := 2) (List.mem_of_getElem? (i := 32) rfl)
              refine va_ldcS S.x S.b S.own hRsk164 d_Mpg_two_121 ?_
              first | refine px_calli (pr := [wdP cs h r g tf ta pf na ma wa cf ca ef ea xf xa]) (px_runV (As := [.ref sk164]) (rest := []) S (c_sg_equals l D cs sk2 st3 (mlen z1.toNatClampNeg) (mby z1.toNatClampNeg) sk164 st165 2 (lby ">>")   (show (mlen z1.toNatClampNeg) ≤ 1000000 from (oz_f8a16524ad e7 nc9)) (show 2 ≤ 1000000 from by omega) _) hT (pr := [wdP cs h r g tf ta pf na ma wa cf ca ef ea xf xa]) (pcs := []) hw (oX_call (P := (fun A U H => (oZ A U H) ∧ (oS A sk2 st3 (mlen z1.toNatClampNeg) (mby z1.toNatClampNeg) U H) ∧ (oS A sk164 st165 2 (lby ">>") U H))) (pr := [wdP cs h r g tf ta pf na ma wa cf ca ef ea xf xa]) (oG_and oG_Z (oG_and oG_S oG_S)) hw hA ⟨hZ, hSsk2, hSsk164⟩) (oS_recv hw hSsk2) m11_225 m11_222 m11_223 m11_224 m1_3 q_String_equals ⟨Nat.le_of_ble_eq_true rfl, Nat.le_of_ble_eq_true rfl⟩ hl.1 rfl (Nat.le_of_ble_eq_true rfl) d_Mpg_two_123 ⟨Nat.le_of_ble_eq_true rfl, Nat.le_of_ble_eq_true rfl⟩) hw hA (fun v168 p167 H locs hp167 hw => ?_) | (refine px_calli (pr := [wdP cs h r g tf ta pf na ma wa cf ca ef ea xf xa]) (px_runV (As := [.ref sk164]) (rest := []) S (c_sg_equals l D cs sk2 st3 (mlen z1.toNatClampNeg) (mby z1.toNatClampNeg) sk164 st165 2 (lby ">>")   (show (mlen z1.toNatClampNeg) ≤ 1000000 from by first | exact oz_f8a16524ad e7 nc9 | omega) (show 2 ≤ 1000000 from by omega) _) hT (pr := [wdP cs h r g tf ta pf na ma wa cf ca ef ea xf xa]) (pcs := []) hw (oX_call (P := (fun A U H => (oZ A U H) ∧ (oS A sk2 st3 (mlen z1.toNatClampNeg) (mby z1.toNatClampNeg) U H) ∧ (oS A sk164 st165 2 (lby ">>") U H))) (pr := [wdP cs h r g tf ta pf na ma wa cf ca ef ea xf xa]) (oG_and oG_Z (oG_and oG_S oG_S)) hw hA ⟨hZ, hSsk2, hSsk164⟩) (oS_recv hw hSsk2) m11_225 m11_222 m11_223 m11_224 m1_3 q_String_equals ⟨Nat.le_of_ble_eq_true rfl, Nat.le_of_ble_eq_true rfl⟩ hl.1 rfl (Nat.le_of_ble_eq_true rfl) d_Mpg_two_123 ⟨Nat.le_of_ble_eq_true rfl, Nat.le_of_ble_eq_true rfl⟩) hw hA (fun v168 p167 H locs hp167 hw => ?_))
              obtain ⟨rfl, e169, e170⟩ := hp167
              have e169 := z_rng e169
              have e170 : R_sg_equals (mlen z1.toNatClampNeg) (mby z1.toNatClampNeg) 2 (lby ">>") v168 := e170
              have lv168 := Int32.le_toInt v168
              have uv168 := Int32.toInt_lt v168
              refine lv_if_eq (tgt := 135) S.x S.b d_Mpg_two_126 (by decide) (fun c171 => ?_) (fun c171 => ?_)
              · have nc171 : v168.toInt = (0 : Int) := (i_eq (x := v168) (y := 0)).mp c171
                refine lv_iload S.x S.b d_Mpg_two_135 (lv_at hl 0 rfl) ?_
                refine lv_if_eq (tgt := 144) S.x S.b d_Mpg_two_137 (by decide) (fun c173 => ?_) (fun c173 => ?_)
                · exact absurd c173 (by decide)
                ·
                  refine lv_iconst (v := 1) S.x S.b d_Mpg_two_140 (by decide) ?_
                  refine lv_goto (tgt := 145) S.x S.b d_Mpg_two_141 (by decide) ?_
                  exact px_iret (v := 1) S hr rfl hlk hAe hw (Nat.le_of_ble_eq_true rfl) (Nat.le_of_ble_eq_true rfl) (⟨cf, rfl, (show KpE cf cf from hke), (show WrV cf (tf 6).toInt from hwr), (show (cf 33).toInt = (cf 33).toInt from rfl), (show (cf 38).toInt = (cf 38).toInt from rfl), (show (cf 48).toInt = (cf 48).toInt from rfl), (show (cf 47).toInt = (cf 47).toInt from rfl), (show R_mp_two ta p0 p1 p2 cf cf (1 : Int32) from (Or.inl ⟨z1, ez1, v6, e8, Or.inr ⟨nc9, v65, e67, Or.inl ⟨nc68, v74, e76, Or.inl ⟨nc77, v83, e85, Or.inr ⟨nc86, Or.inr ⟨nc132, v159, e161, Or.inl ⟨nc162, v168, e170, Or.inl ⟨nc171, rfl, rfl⟩⟩⟩⟩⟩⟩⟩⟩))⟩) d_Mpg_two_145
              · have nc171 : ¬ v168.toInt = (0 : Int) := mt (i_eq (x := v168) (y := 0)).mpr c171
                refine lv_iload_n S.x S.b d_Mpg_two_129 rfl (lv_at hl 4 rfl) ?_
                refine lv_iload_n S.x S.b d_Mpg_two_130 rfl (lv_at hl 5 rfl) ?_
                refine lv_ishr S.x S.b d_Mpg_two_131 ?_
                refine lv_topi (fun z174 ez174 => ?_)
                have lz174 := Int32.le_toInt z174
                have uz174 := Int32.toInt_lt z174
                refine lv_goto (tgt := 145) S.x S.b d_Mpg_two_132 (by decide) ?_
                exact px_iret (v := z174) S hr rfl hlk hAe hw (Nat.le_of_ble_eq_true rfl) (Nat.le_of_ble_eq_true rfl) (⟨cf, rfl, (show KpE cf cf from hke), (show WrV cf (tf 6).toInt from hwr), (show (cf 33).toInt = (cf 33).toInt from rfl), (show (cf 38).toInt = (cf 38).toInt from rfl), (show (cf 48).toInt = (cf 48).toInt from rfl), (show (cf 47).toInt = (cf 47).toInt from rfl), (show R_mp_two ta p0 p1 p2 cf cf z174 from (Or.inl ⟨z1, ez1, v6, e8, Or.inr ⟨nc9, v65, e67, Or.inl ⟨nc68, v74, e76, Or.inl ⟨nc77, v83, e85, Or.inr ⟨nc86, Or.inr ⟨nc132, v159, e161, Or.inl ⟨nc162, v168, e170, Or.inr ⟨nc171, z174, ez174, rfl, rfl⟩⟩⟩⟩⟩⟩⟩⟩))⟩) d_Mpg_two_145
            · have nc162 : ¬ v159.toInt = (0 : Int) := mt (i_eq (x := v159) (y := 0)).mpr c162
              refine lv_iload_n S.x S.b d_Mpg_two_113 rfl (lv_at hl 4 rfl) ?_
              refine lv_iload_n S.x S.b d_Mpg_two_114 rfl (lv_at hl 5 rfl) ?_
              refine lv_ishl S.x S.b d_Mpg_two_115 ?_
              refine lv_topi (fun z175 ez175 => ?_)
              have lz175 := Int32.le_toInt z175
              have uz175 := Int32.toInt_lt z175
              refine lv_goto (tgt := 145) S.x S.b d_Mpg_two_116 (by decide) ?_
              exact px_iret (v := z175) S hr rfl hlk hAe hw (Nat.le_of_ble_eq_true rfl) (Nat.le_of_ble_eq_true rfl) (⟨cf, rfl, (show KpE cf cf from hke), (show WrV cf (tf 6).toInt from hwr), (show (cf 33).toInt = (cf 33).toInt from rfl), (show (cf 38).toInt = (cf 38).toInt from rfl), (show (cf 48).toInt = (cf 48).toInt from rfl), (show (cf 47).toInt = (cf 47).toInt from rfl), (show R_mp_two ta p0 p1 p2 cf cf z175 from (Or.inl ⟨z1, ez1, v6, e8, Or.inr ⟨nc9, v65, e67, Or.inl ⟨nc68, v74, e76, Or.inl ⟨nc77, v83, e85, Or.inr ⟨nc86, Or.inr ⟨nc132, v159, e161, Or.inr ⟨nc162, z175, ez175, rfl, rfl⟩⟩⟩⟩⟩⟩⟩))⟩) d_Mpg_two_145
      · have nc77 : ¬ v74.toInt = (0 : Int) := mt (i_eq (x := v74) (y := 0)).mpr c77
        refine lv_iload_n S.x S.b d_Mpg_two_55 rfl (lv_at hl 3 rfl) ?_
        refine lv_iload_n S.x S.b d_Mpg_two_56 rfl (lv_at hl 4 rfl) ?_
        refine lv_icmp_eq (tgt := 64) S.x S.b d_Mpg_two_57 (by decide) (fun c176 => ?_) (fun c176 => ?_)
        · have nc176 : p1.toInt = p2.toInt := (i_eq (x := p1) (y := p2)).mp c176
          refine lv_iconst (v := 0) S.x S.b d_Mpg_two_64 (by decide) ?_
          refine lv_goto (tgt := 101) S.x S.b d_Mpg_two_65 (by decide) ?_
          refine lv_istore (lv' := [(5, .int 0), (4, .ref sk2), (0, .ref h), (1, .int p0), (2, .int p1), (3, .int p2)]) S.x S.b d_Mpg_two_101 hl (by decide) rfl (fun ls hl => ?_)
          refine lv_aload S.x S.b d_Mpg_two_103 (lv_at hl 1 rfl) ?_
          obtain ⟨sk178, hRsk178, st179, hSsk178⟩ := oP_litB hP (k := 79) (tx := "<<") (n := 2) (List.mem_of_getElem? (i := 31) rfl)
          refine va_ldcS S.x S.b S.own hRsk178 d_Mpg_two_105 ?_
          first | refine px_calli (pr := [wdP cs h r g tf ta pf na ma wa cf ca ef ea xf xa]) (px_runV (As := [.ref sk178]) (rest := []) S (c_sg_equals l D cs sk2 st3 (mlen z1.toNatClampNeg) (mby z1.toNatClampNeg) sk178 st179 2 (lby "<<")   (show (mlen z1.toNatClampNeg) ≤ 1000000 from (oz_f8a16524ad e7 nc9)) (show 2 ≤ 1000000 from by omega) _) hT (pr := [wdP cs h r g tf ta pf na ma wa cf ca ef ea xf xa]) (pcs := []) hw (oX_call (P := (fun A U H => (oZ A U H) ∧ (oS A sk2 st3 (mlen z1.toNatClampNeg) (mby z1.toNatClampNeg) U H) ∧ (oS A sk178 st179 2 (lby "<<") U H))) (pr := [wdP cs h r g tf ta pf na ma wa cf ca ef ea xf xa]) (oG_and oG_Z (oG_and oG_S oG_S)) hw hA ⟨hZ, hSsk2, hSsk178⟩) (oS_recv hw hSsk2) m11_225 m11_222 m11_223 m11_224 m1_3 q_String_equals ⟨Nat.le_of_ble_eq_true rfl, Nat.le_of_ble_eq_true rfl⟩ hl.1 rfl (Nat.le_of_ble_eq_true rfl) d_Mpg_two_107 ⟨Nat.le_of_ble_eq_true rfl, Nat.le_of_ble_eq_true rfl⟩) hw hA (fun v182 p181 H locs hp181 hw => ?_) | (refine px_calli (pr := [wdP cs h r g tf ta pf na ma wa cf ca ef ea xf xa]) (px_runV (As := [.ref sk178]) (rest := []) S (c_sg_equals l D cs sk2 st3 (mlen z1.toNatClampNeg) (mby z1.toNatClampNeg) sk178 st179 2 (lby "<<")   (show (mlen z1.toNatClampNeg) ≤ 1000000 from by first | exact oz_f8a16524ad e7 nc9 | omega) (show 2 ≤ 1000000 from by omega) _) hT (pr := [wdP cs h r g tf ta pf na ma wa cf ca ef ea xf xa]) (pcs := []) hw (oX_call (P := (fun A U H => (oZ A U H) ∧ (oS A sk2 st3 (mlen z1.toNatClampNeg) (mby z1.toNatClampNeg) U H) ∧ (oS A sk178 st179 2 (lby "<<") U H))) (pr := [wdP cs h r g tf ta pf na ma wa cf ca ef ea xf xa]) (oG_and oG_Z (oG_and oG_S oG_S)) hw hA ⟨hZ, hSsk2, hSsk178⟩) (oS_recv hw hSsk2) m11_225 m11_222 m11_223 m11_224 m1_3 q_String_equals ⟨Nat.le_of_ble_eq_true rfl, Nat.le_of_ble_eq_true rfl⟩ hl.1 rfl (Nat.le_of_ble_eq_true rfl) d_Mpg_two_107 ⟨Nat.le_of_ble_eq_true rfl, Nat.le_of_ble_eq_true rfl⟩) hw hA (fun v182 p181 H locs hp181 hw => ?_))
          obtain ⟨rfl, e183, e184⟩ := hp181
          have e183 := z_rng e183
          have e184 : R_sg_equals (mlen z1.toNatClampNeg) (mby z1.toNatClampNeg) 2 (lby "<<") v182 := e184
          have lv182 := Int32.le_toInt v182
          have uv182 := Int32.toInt_lt v182
          refine lv_if_eq (tgt := 119) S.x S.b d_Mpg_two_110 (by decide) (fun c185 => ?_) (fun c185 => ?_)
          · have nc185 : v182.toInt = (0 : Int) := (i_eq (x := v182) (y := 0)).mp c185
            refine lv_aload S.x S.b d_Mpg_two_119 (lv_at hl 1 rfl) ?_
            obtain ⟨sk187, hRsk187, st188, hSsk187⟩ := oP_litB hP (k := 81) (tx := ">>") (n := 2) (List.mem_of_getElem? (i := 32) rfl)
            refine va_ldcS S.x S.b S.own hRsk187 d_Mpg_two_121 ?_
            first | refine px_calli (pr := [wdP cs h r g tf ta pf na ma wa cf ca ef ea xf xa]) (px_runV (As := [.ref sk187]) (rest := []) S (c_sg_equals l D cs sk2 st3 (mlen z1.toNatClampNeg) (mby z1.toNatClampNeg) sk187 st188 2 (lby ">>")   (show (mlen z1.toNatClampNeg) ≤ 1000000 from (oz_f8a16524ad e7 nc9)) (show 2 ≤ 1000000 from by omega) _) hT (pr := [wdP cs h r g tf ta pf na ma wa cf ca ef ea xf xa]) (pcs := []) hw (oX_call (P := (fun A U H => (oZ A U H) ∧ (oS A sk2 st3 (mlen z1.toNatClampNeg) (mby z1.toNatClampNeg) U H) ∧ (oS A sk187 st188 2 (lby ">>") U H))) (pr := [wdP cs h r g tf ta pf na ma wa cf ca ef ea xf xa]) (oG_and oG_Z (oG_and oG_S oG_S)) hw hA ⟨hZ, hSsk2, hSsk187⟩) (oS_recv hw hSsk2) m11_225 m11_222 m11_223 m11_224 m1_3 q_String_equals ⟨Nat.le_of_ble_eq_true rfl, Nat.le_of_ble_eq_true rfl⟩ hl.1 rfl (Nat.le_of_ble_eq_true rfl) d_Mpg_two_123 ⟨Nat.le_of_ble_eq_true rfl, Nat.le_of_ble_eq_true rfl⟩) hw hA (fun v191 p190 H locs hp190 hw => ?_) | (refine px_calli (pr := [wdP cs h r g tf ta pf na ma wa cf ca ef ea xf xa]) (px_runV (As := [.ref sk187]) (rest := []) S (c_sg_equals l D cs sk2 st3 (mlen z1.toNatClampNeg) (mby z1.toNatClampNeg) sk187 st188 2 (lby ">>")   (show (mlen z1.toNatClampNeg) ≤ 1000000 from by first | exact oz_f8a16524ad e7 nc9 | omega) (show 2 ≤ 1000000 from by omega) _) hT (pr := [wdP cs h r g tf ta pf na ma wa cf ca ef ea xf xa]) (pcs := []) hw (oX_call (P := (fun A U H => (oZ A U H) ∧ (oS A sk2 st3 (mlen z1.toNatClampNeg) (mby z1.toNatClampNeg) U H) ∧ (oS A sk187 st188 2 (lby ">>") U H))) (pr := [wdP cs h r g tf ta pf na ma wa cf ca ef ea xf xa]) (oG_and oG_Z (oG_and oG_S oG_S)) hw hA ⟨hZ, hSsk2, hSsk187⟩) (oS_recv hw hSsk2) m11_225 m11_222 m11_223 m11_224 m1_3 q_String_equals ⟨Nat.le_of_ble_eq_true rfl, Nat.le_of_ble_eq_true rfl⟩ hl.1 rfl (Nat.le_of_ble_eq_true rfl) d_Mpg_two_123 ⟨Nat.le_of_ble_eq_true rfl, Nat.le_of_ble_eq_true rfl⟩) hw hA (fun v191 p190 H locs hp190 hw => ?_))
            obtain ⟨rfl, e192, e193⟩ := hp190
            have e192 := z_rng e192
            have e193 : R_sg_equals (mlen z1.toNatClampNeg) (mby z1.toNatClampNeg) 2 (lby ">>") v191 := e193
            have lv191 := Int32.le_toInt v191
            have uv191 := Int32.toInt_lt v191
            refine lv_if_eq (tgt := 135) S.x S.b d_Mpg_two_126 (by decide) (fun c194 => ?_) (fun c194 => ?_)
            · have nc194 : v191.toInt = (0 : Int) := (i_eq (x := v191) (y := 0)).mp c194
              refine lv_iload S.x S.b d_Mpg_two_135 (lv_at hl 0 rfl) ?_
              refine lv_if_eq (tgt := 144) S.x S.b d_Mpg_two_137 (by decide) (fun c196 => ?_) (fun c196 => ?_)
              ·
                refine lv_iconst (v := 0) S.x S.b d_Mpg_two_144 (by decide) ?_
                exact px_iret (v := 0) S hr rfl hlk hAe hw (Nat.le_of_ble_eq_true rfl) (Nat.le_of_ble_eq_true rfl) (⟨cf, rfl, (show KpE cf cf from hke), (show WrV cf (tf 6).toInt from hwr), (show (cf 33).toInt = (cf 33).toInt from rfl), (show (cf 38).toInt = (cf 38).toInt from rfl), (show (cf 48).toInt = (cf 48).toInt from rfl), (show (cf 47).toInt = (cf 47).toInt from rfl), (show R_mp_two ta p0 p1 p2 cf cf (0 : Int32) from (Or.inl ⟨z1, ez1, v6, e8, Or.inr ⟨nc9, v65, e67, Or.inl ⟨nc68, v74, e76, Or.inr ⟨nc77, Or.inl ⟨nc176, v182, e184, Or.inl ⟨nc185, v191, e193, Or.inl ⟨nc194, rfl, rfl⟩⟩⟩⟩⟩⟩⟩))⟩) d_Mpg_two_145
              · exact absurd c196 (by decide)
            · have nc194 : ¬ v191.toInt = (0 : Int) := mt (i_eq (x := v191) (y := 0)).mpr c194
              refine lv_iload_n S.x S.b d_Mpg_two_129 rfl (lv_at hl 4 rfl) ?_
              refine lv_iload_n S.x S.b d_Mpg_two_130 rfl (lv_at hl 5 rfl) ?_
              refine lv_ishr S.x S.b d_Mpg_two_131 ?_
              refine lv_topi (fun z197 ez197 => ?_)
              have lz197 := Int32.le_toInt z197
              have uz197 := Int32.toInt_lt z197
              refine lv_goto (tgt := 145) S.x S.b d_Mpg_two_132 (by decide) ?_
              exact px_iret (v := z197) S hr rfl hlk hAe hw (Nat.le_of_ble_eq_true rfl) (Nat.le_of_ble_eq_true rfl) (⟨cf, rfl, (show KpE cf cf from hke), (show WrV cf (tf 6).toInt from hwr), (show (cf 33).toInt = (cf 33).toInt from rfl), (show (cf 38).toInt = (cf 38).toInt from rfl), (show (cf 48).toInt = (cf 48).toInt from rfl), (show (cf 47).toInt = (cf 47).toInt from rfl), (show R_mp_two ta p0 p1 p2 cf cf z197 from (Or.inl ⟨z1, ez1, v6, e8, Or.inr ⟨nc9, v65, e67, Or.inl ⟨nc68, v74, e76, Or.inr ⟨nc77, Or.inl ⟨nc176, v182, e184, Or.inl ⟨nc185, v191, e193, Or.inr ⟨nc194, z197, ez197, rfl, rfl⟩⟩⟩⟩⟩⟩⟩))⟩) d_Mpg_two_145
          · have nc185 : ¬ v182.toInt = (0 : Int) := mt (i_eq (x := v182) (y := 0)).mpr c185
            refine lv_iload_n S.x S.b d_Mpg_two_113 rfl (lv_at hl 4 rfl) ?_
            refine lv_iload_n S.x S.b d_Mpg_two_114 rfl (lv_at hl 5 rfl) ?_
            refine lv_ishl S.x S.b d_Mpg_two_115 ?_
            refine lv_topi (fun z198 ez198 => ?_)
            have lz198 := Int32.le_toInt z198
            have uz198 := Int32.toInt_lt z198
            refine lv_goto (tgt := 145) S.x S.b d_Mpg_two_116 (by decide) ?_
            exact px_iret (v := z198) S hr rfl hlk hAe hw (Nat.le_of_ble_eq_true rfl) (Nat.le_of_ble_eq_true rfl) (⟨cf, rfl, (show KpE cf cf from hke), (show WrV cf (tf 6).toInt from hwr), (show (cf 33).toInt = (cf 33).toInt from rfl), (show (cf 38).toInt = (cf 38).toInt from rfl), (show (cf 48).toInt = (cf 48).toInt from rfl), (show (cf 47).toInt = (cf 47).toInt from rfl), (show R_mp_two ta p0 p1 p2 cf cf z198 from (Or.inl ⟨z1, ez1, v6, e8, Or.inr ⟨nc9, v65, e67, Or.inl ⟨nc68, v74, e76, Or.inr ⟨nc77, Or.inl ⟨nc176, v182, e184, Or.inr ⟨nc185, z198, ez198, rfl, rfl⟩⟩⟩⟩⟩⟩))⟩) d_Mpg_two_145
        · have nc176 : ¬ p1.toInt = p2.toInt := mt (i_eq (x := p1) (y := p2)).mpr c176
          refine lv_iconst (v := 1) S.x S.b d_Mpg_two_60 (by decide) ?_
          refine lv_goto (tgt := 101) S.x S.b d_Mpg_two_61 (by decide) ?_
          refine lv_istore (lv' := [(5, .int 1), (4, .ref sk2), (0, .ref h), (1, .int p0), (2, .int p1), (3, .int p2)]) S.x S.b d_Mpg_two_101 hl (by decide) rfl (fun ls hl => ?_)
          refine lv_aload S.x S.b d_Mpg_two_103 (lv_at hl 1 rfl) ?_
          obtain ⟨sk199, hRsk199, st200, hSsk199⟩ := oP_litB hP (k := 79) (tx := "<<") (n := 2) (List.mem_of_getElem? (i := 31) rfl)
          refine va_ldcS S.x S.b S.own hRsk199 d_Mpg_two_105 ?_
          first | refine px_calli (pr := [wdP cs h r g tf ta pf na ma wa cf ca ef ea xf xa]) (px_runV (As := [.ref sk199]) (rest := []) S (c_sg_equals l D cs sk2 st3 (mlen z1.toNatClampNeg) (mby z1.toNatClampNeg) sk199 st200 2 (lby "<<")   (show (mlen z1.toNatClampNeg) ≤ 1000000 from (oz_f8a16524ad e7 nc9)) (show 2 ≤ 1000000 from by omega) _) hT (pr := [wdP cs h r g tf ta pf na ma wa cf ca ef ea xf xa]) (pcs := []) hw (oX_call (P := (fun A U H => (oZ A U H) ∧ (oS A sk2 st3 (mlen z1.toNatClampNeg) (mby z1.toNatClampNeg) U H) ∧ (oS A sk199 st200 2 (lby "<<") U H))) (pr := [wdP cs h r g tf ta pf na ma wa cf ca ef ea xf xa]) (oG_and oG_Z (oG_and oG_S oG_S)) hw hA ⟨hZ, hSsk2, hSsk199⟩) (oS_recv hw hSsk2) m11_225 m11_222 m11_223 m11_224 m1_3 q_String_equals ⟨Nat.le_of_ble_eq_true rfl, Nat.le_of_ble_eq_true rfl⟩ hl.1 rfl (Nat.le_of_ble_eq_true rfl) d_Mpg_two_107 ⟨Nat.le_of_ble_eq_true rfl, Nat.le_of_ble_eq_true rfl⟩) hw hA (fun v203 p202 H locs hp202 hw => ?_) | (refine px_calli (pr := [wdP cs h r g tf ta pf na ma wa cf ca ef ea xf xa]) (px_runV (As := [.ref sk199]) (rest := []) S (c_sg_equals l D cs sk2 st3 (mlen z1.toNatClampNeg) (mby z1.toNatClampNeg) sk199 st200 2 (lby "<<")   (show (mlen z1.toNatClampNeg) ≤ 1000000 from by first | exact oz_f8a16524ad e7 nc9 | omega) (show 2 ≤ 1000000 from by omega) _) hT (pr := [wdP cs h r g tf ta pf na ma wa cf ca ef ea xf xa]) (pcs := []) hw (oX_call (P := (fun A U H => (oZ A U H) ∧ (oS A sk2 st3 (mlen z1.toNatClampNeg) (mby z1.toNatClampNeg) U H) ∧ (oS A sk199 st200 2 (lby "<<") U H))) (pr := [wdP cs h r g tf ta pf na ma wa cf ca ef ea xf xa]) (oG_and oG_Z (oG_and oG_S oG_S)) hw hA ⟨hZ, hSsk2, hSsk199⟩) (oS_recv hw hSsk2) m11_225 m11_222 m11_223 m11_224 m1_3 q_String_equals ⟨Nat.le_of_ble_eq_true rfl, Nat.le_of_ble_eq_true rfl⟩ hl.1 rfl (Nat.le_of_ble_eq_true rfl) d_Mpg_two_107 ⟨Nat.le_of_ble_eq_true rfl, Nat.le_of_ble_eq_true rfl⟩) hw hA (fun v203 p202 H locs hp202 hw => ?_))
          obtain ⟨rfl, e204, e205⟩ := hp202
          have e204 := z_rng e204
          have e205 : R_sg_equals (mlen z1.toNatClampNeg) (mby z1.toNatClampNeg) 2 (lby "<<") v203 := e205
          have lv203 := Int32.le_toInt v203
          have uv203 := Int32.toInt_lt v203
          refine lv_if_eq (tgt := 119) S.x S.b d_Mpg_two_110 (by decide) (fun c206 => ?_) (fun c206 => ?_)
          · have nc206 : v203.toInt = (0 : Int) := (i_eq (x := v203) (y := 0)).mp c206
            refine lv_aload S.x S.b d_Mpg_two_119 (lv_at hl 1 rfl) ?_
            obtain ⟨sk208, hRsk208, st209, hSsk208⟩ := oP_litB hP (k := 81) (tx := ">>") (n := 2) (List.mem_of_getElem? (i := 32) rfl)
            refine va_ldcS S.x S.b S.own hRsk208 d_Mpg_two_121 ?_
            first | refine px_calli (pr := [wdP cs h r g tf ta pf na ma wa cf ca ef ea xf xa]) (px_runV (As := [.ref sk208]) (rest := []) S (c_sg_equals l D cs sk2 st3 (mlen z1.toNatClampNeg) (mby z1.toNatClampNeg) sk208 st209 2 (lby ">>")   (show (mlen z1.toNatClampNeg) ≤ 1000000 from (oz_f8a16524ad e7 nc9)) (show 2 ≤ 1000000 from by omega) _) hT (pr := [wdP cs h r g tf ta pf na ma wa cf ca ef ea xf xa]) (pcs := []) hw (oX_call (P := (fun A U H => (oZ A U H) ∧ (oS A sk2 st3 (mlen z1.toNatClampNeg) (mby z1.toNatClampNeg) U H) ∧ (oS A sk208 st209 2 (lby ">>") U H))) (pr := [wdP cs h r g tf ta pf na ma wa cf ca ef ea xf xa]) (oG_and oG_Z (oG_and oG_S oG_S)) hw hA ⟨hZ, hSsk2, hSsk208⟩) (oS_recv hw hSsk2) m11_225 m11_222 m11_223 m11_224 m1_3 q_String_equals ⟨Nat.le_of_ble_eq_true rfl, Nat.le_of_ble_eq_true rfl⟩ hl.1 rfl (Nat.le_of_ble_eq_true rfl) d_Mpg_two_123 ⟨Nat.le_of_ble_eq_true rfl, Nat.le_of_ble_eq_true rfl⟩) hw hA (fun v212 p211 H locs hp211 hw => ?_) | (refine px_calli (pr := [wdP cs h r g tf ta pf na ma wa cf ca ef ea xf xa]) (px_runV (As := [.ref sk208]) (rest := []) S (c_sg_equals l D cs sk2 st3 (mlen z1.toNatClampNeg) (mby z1.toNatClampNeg) sk208 st209 2 (lby ">>")   (show (mlen z1.toNatClampNeg) ≤ 1000000 from by first | exact oz_f8a16524ad e7 nc9 | omega) (show 2 ≤ 1000000 from by omega) _) hT (pr := [wdP cs h r g tf ta pf na ma wa cf ca ef ea xf xa]) (pcs := []) hw (oX_call (P := (fun A U H => (oZ A U H) ∧ (oS A sk2 st3 (mlen z1.toNatClampNeg) (mby z1.toNatClampNeg) U H) ∧ (oS A sk208 st209 2 (lby ">>") U H))) (pr := [wdP cs h r g tf ta pf na ma wa cf ca ef ea xf xa]) (oG_and oG_Z (oG_and oG_S oG_S)) hw hA ⟨hZ, hSsk2, hSsk208⟩) (oS_recv hw hSsk2) m11_225 m11_222 m11_223 m11_224 m1_3 q_String_equals ⟨Nat.le_of_ble_eq_true rfl, Nat.le_of_ble_eq_true rfl⟩ hl.1 rfl (Nat.le_of_ble_eq_true rfl) d_Mpg_two_123 ⟨Nat.le_of_ble_eq_true rfl, Nat.le_of_ble_eq_true rfl⟩) hw hA (fun v212 p211 H locs hp211 hw => ?_))
            obtain ⟨rfl, e213, e214⟩ := hp211
            have e213 := z_rng e213
            have e214 : R_sg_equals (mlen z1.toNatClampNeg) (mby z1.toNatClampNeg) 2 (lby ">>") v212 := e214
            have lv212 := Int32.le_toInt v212
            have uv212 := Int32.toInt_lt v212
            refine lv_if_eq (tgt := 135) S.x S.b d_Mpg_two_126 (by decide) (fun c215 => ?_) (fun c215 => ?_)
            · have nc215 : v212.toInt = (0 : Int) := (i_eq (x := v212) (y := 0)).mp c215
              refine lv_iload S.x S.b d_Mpg_two_135 (lv_at hl 0 rfl) ?_
              refine lv_if_eq (tgt := 144) S.x S.b d_Mpg_two_137 (by decide) (fun c217 => ?_) (fun c217 => ?_)
              · exact absurd c217 (by decide)
              ·
                refine lv_iconst (v := 1) S.x S.b d_Mpg_two_140 (by decide) ?_
                refine lv_goto (tgt := 145) S.x S.b d_Mpg_two_141 (by decide) ?_
                exact px_iret (v := 1) S hr rfl hlk hAe hw (Nat.le_of_ble_eq_true rfl) (Nat.le_of_ble_eq_true rfl) (⟨cf, rfl, (show KpE cf cf from hke), (show WrV cf (tf 6).toInt from hwr), (show (cf 33).toInt = (cf 33).toInt from rfl), (show (cf 38).toInt = (cf 38).toInt from rfl), (show (cf 48).toInt = (cf 48).toInt from rfl), (show (cf 47).toInt = (cf 47).toInt from rfl), (show R_mp_two ta p0 p1 p2 cf cf (1 : Int32) from (Or.inl ⟨z1, ez1, v6, e8, Or.inr ⟨nc9, v65, e67, Or.inl ⟨nc68, v74, e76, Or.inr ⟨nc77, Or.inr ⟨nc176, v203, e205, Or.inl ⟨nc206, v212, e214, Or.inl ⟨nc215, rfl, rfl⟩⟩⟩⟩⟩⟩⟩))⟩) d_Mpg_two_145
            · have nc215 : ¬ v212.toInt = (0 : Int) := mt (i_eq (x := v212) (y := 0)).mpr c215
              refine lv_iload_n S.x S.b d_Mpg_two_129 rfl (lv_at hl 4 rfl) ?_
              refine lv_iload_n S.x S.b d_Mpg_two_130 rfl (lv_at hl 5 rfl) ?_
              refine lv_ishr S.x S.b d_Mpg_two_131 ?_
              refine lv_topi (fun z218 ez218 => ?_)
              have lz218 := Int32.le_toInt z218
              have uz218 := Int32.toInt_lt z218
              refine lv_goto (tgt := 145) S.x S.b d_Mpg_two_132 (by decide) ?_
              exact px_iret (v := z218) S hr rfl hlk hAe hw (Nat.le_of_ble_eq_true rfl) (Nat.le_of_ble_eq_true rfl) (⟨cf, rfl, (show KpE cf cf from hke), (show WrV cf (tf 6).toInt from hwr), (show (cf 33).toInt = (cf 33).toInt from rfl), (show (cf 38).toInt = (cf 38).toInt from rfl), (show (cf 48).toInt = (cf 48).toInt from rfl), (show (cf 47).toInt = (cf 47).toInt from rfl), (show R_mp_two ta p0 p1 p2 cf cf z218 from (Or.inl ⟨z1, ez1, v6, e8, Or.inr ⟨nc9, v65, e67, Or.inl ⟨nc68, v74, e76, Or.inr ⟨nc77, Or.inr ⟨nc176, v203, e205, Or.inl ⟨nc206, v212, e214, Or.inr ⟨nc215, z218, ez218, rfl, rfl⟩⟩⟩⟩⟩⟩⟩))⟩) d_Mpg_two_145
          · have nc206 : ¬ v203.toInt = (0 : Int) := mt (i_eq (x := v203) (y := 0)).mpr c206
            refine lv_iload_n S.x S.b d_Mpg_two_113 rfl (lv_at hl 4 rfl) ?_
            refine lv_iload_n S.x S.b d_Mpg_two_114 rfl (lv_at hl 5 rfl) ?_
            refine lv_ishl S.x S.b d_Mpg_two_115 ?_
            refine lv_topi (fun z219 ez219 => ?_)
            have lz219 := Int32.le_toInt z219
            have uz219 := Int32.toInt_lt z219
            refine lv_goto (tgt := 145) S.x S.b d_Mpg_two_116 (by decide) ?_
            exact px_iret (v := z219) S hr rfl hlk hAe hw (Nat.le_of_ble_eq_true rfl) (Nat.le_of_ble_eq_true rfl) (⟨cf, rfl, (show KpE cf cf from hke), (show WrV cf (tf 6).toInt from hwr), (show (cf 33).toInt = (cf 33).toInt from rfl), (show (cf 38).toInt = (cf 38).toInt from rfl), (show (cf 48).toInt = (cf 48).toInt from rfl), (show (cf 47).toInt = (cf 47).toInt from rfl), (show R_mp_two ta p0 p1 p2 cf cf z219 from (Or.inl ⟨z1, ez1, v6, e8, Or.inr ⟨nc9, v65, e67, Or.inl ⟨nc68, v74, e76, Or.inr ⟨nc77, Or.inr ⟨nc176, v203, e205, Or.inr ⟨nc206, z219, ez219, rfl, rfl⟩⟩⟩⟩⟩⟩))⟩) d_Mpg_two_145
    · have nc68 : ¬ v65.toInt = (0 : Int) := mt (i_eq (x := v65) (y := 0)).mpr c68
      refine lv_iload_n S.x S.b d_Mpg_two_32 rfl (lv_at hl 3 rfl) ?_
      refine lv_iload_n S.x S.b d_Mpg_two_33 rfl (lv_at hl 4 rfl) ?_
      refine lv_icmp_ne (tgt := 41) S.x S.b d_Mpg_two_34 (by decide) (fun c220 => ?_) (fun c220 => ?_)
      · have nc220 : ¬ p1.toInt = p2.toInt := mt (i_eq (x := p1) (y := p2)).mpr c220
        refine lv_iconst (v := 0) S.x S.b d_Mpg_two_41 (by decide) ?_
        refine lv_goto (tgt := 101) S.x S.b d_Mpg_two_42 (by decide) ?_
        refine lv_istore (lv' := [(5, .int 0), (4, .ref sk2), (0, .ref h), (1, .int p0), (2, .int p1), (3, .int p2)]) S.x S.b d_Mpg_two_101 hl (by decide) rfl (fun ls hl => ?_)
        refine lv_aload S.x S.b d_Mpg_two_103 (lv_at hl 1 rfl) ?_
        obtain ⟨sk222, hRsk222, st223, hSsk222⟩ := oP_litB hP (k := 79) (tx := "<<") (n := 2) (List.mem_of_getElem? (i := 31) rfl)
        refine va_ldcS S.x S.b S.own hRsk222 d_Mpg_two_105 ?_
        first | refine px_calli (pr := [wdP cs h r g tf ta pf na ma wa cf ca ef ea xf xa]) (px_runV (As := [.ref sk222]) (rest := []) S (c_sg_equals l D cs sk2 st3 (mlen z1.toNatClampNeg) (mby z1.toNatClampNeg) sk222 st223 2 (lby "<<")   (show (mlen z1.toNatClampNeg) ≤ 1000000 from (oz_f8a16524ad e7 nc9)) (show 2 ≤ 1000000 from by omega) _) hT (pr := [wdP cs h r g tf ta pf na ma wa cf ca ef ea xf xa]) (pcs := []) hw (oX_call (P := (fun A U H => (oZ A U H) ∧ (oS A sk2 st3 (mlen z1.toNatClampNeg) (mby z1.toNatClampNeg) U H) ∧ (oS A sk222 st223 2 (lby "<<") U H))) (pr := [wdP cs h r g tf ta pf na ma wa cf ca ef ea xf xa]) (oG_and oG_Z (oG_and oG_S oG_S)) hw hA ⟨hZ, hSsk2, hSsk222⟩) (oS_recv hw hSsk2) m11_225 m11_222 m11_223 m11_224 m1_3 q_String_equals ⟨Nat.le_of_ble_eq_true rfl, Nat.le_of_ble_eq_true rfl⟩ hl.1 rfl (Nat.le_of_ble_eq_true rfl) d_Mpg_two_107 ⟨Nat.le_of_ble_eq_true rfl, Nat.le_of_ble_eq_true rfl⟩) hw hA (fun v226 p225 H locs hp225 hw => ?_) | (refine px_calli (pr := [wdP cs h r g tf ta pf na ma wa cf ca ef ea xf xa]) (px_runV (As := [.ref sk222]) (rest := []) S (c_sg_equals l D cs sk2 st3 (mlen z1.toNatClampNeg) (mby z1.toNatClampNeg) sk222 st223 2 (lby "<<")   (show (mlen z1.toNatClampNeg) ≤ 1000000 from by first | exact oz_f8a16524ad e7 nc9 | omega) (show 2 ≤ 1000000 from by omega) _) hT (pr := [wdP cs h r g tf ta pf na ma wa cf ca ef ea xf xa]) (pcs := []) hw (oX_call (P := (fun A U H => (oZ A U H) ∧ (oS A sk2 st3 (mlen z1.toNatClampNeg) (mby z1.toNatClampNeg) U H) ∧ (oS A sk222 st223 2 (lby "<<") U H))) (pr := [wdP cs h r g tf ta pf na ma wa cf ca ef ea xf xa]) (oG_and oG_Z (oG_and oG_S oG_S)) hw hA ⟨hZ, hSsk2, hSsk222⟩) (oS_recv hw hSsk2) m11_225 m11_222 m11_223 m11_224 m1_3 q_String_equals ⟨Nat.le_of_ble_eq_true rfl, Nat.le_of_ble_eq_true rfl⟩ hl.1 rfl (Nat.le_of_ble_eq_true rfl) d_Mpg_two_107 ⟨Nat.le_of_ble_eq_true rfl, Nat.le_of_ble_eq_true rfl⟩) hw hA (fun v226 p225 H locs hp225 hw => ?_))
        obtain ⟨rfl, e227, e228⟩ := hp225
        have e227 := z_rng e227
        have e228 : R_sg_equals (mlen z1.toNatClampNeg) (mby z1.toNatClampNeg) 2 (lby "<<") v226 := e228
        have lv226 := Int32.le_toInt v226
        have uv226 := Int32.toInt_lt v226
        refine lv_if_eq (tgt := 119) S.x S.b d_Mpg_two_110 (by decide) (fun c229 => ?_) (fun c229 => ?_)
        · have nc229 : v226.toInt = (0 : Int) := (i_eq (x := v226) (y := 0)).mp c229
          refine lv_aload S.x S.b d_Mpg_two_119 (lv_at hl 1 rfl) ?_
          obtain ⟨sk231, hRsk231, st232, hSsk231⟩ := oP_litB hP (k := 81) (tx := ">>") (n := 2) (List.mem_of_getElem? (i := 32) rfl)
          refine va_ldcS S.x S.b S.own hRsk231 d_Mpg_two_121 ?_
          first | refine px_calli (pr := [wdP cs h r g tf ta pf na ma wa cf ca ef ea xf xa]) (px_runV (As := [.ref sk231]) (rest := []) S (c_sg_equals l D cs sk2 st3 (mlen z1.toNatClampNeg) (mby z1.toNatClampNeg) sk231 st232 2 (lby ">>")   (show (mlen z1.toNatClampNeg) ≤ 1000000 from (oz_f8a16524ad e7 nc9)) (show 2 ≤ 1000000 from by omega) _) hT (pr := [wdP cs h r g tf ta pf na ma wa cf ca ef ea xf xa]) (pcs := []) hw (oX_call (P := (fun A U H => (oZ A U H) ∧ (oS A sk2 st3 (mlen z1.toNatClampNeg) (mby z1.toNatClampNeg) U H) ∧ (oS A sk231 st232 2 (lby ">>") U H))) (pr := [wdP cs h r g tf ta pf na ma wa cf ca ef ea xf xa]) (oG_and oG_Z (oG_and oG_S oG_S)) hw hA ⟨hZ, hSsk2, hSsk231⟩) (oS_recv hw hSsk2) m11_225 m11_222 m11_223 m11_224 m1_3 q_String_equals ⟨Nat.le_of_ble_eq_true rfl, Nat.le_of_ble_eq_true rfl⟩ hl.1 rfl (Nat.le_of_ble_eq_true rfl) d_Mpg_two_123 ⟨Nat.le_of_ble_eq_true rfl, Nat.le_of_ble_eq_true rfl⟩) hw hA (fun v235 p234 H locs hp234 hw => ?_) | (refine px_calli (pr := [wdP cs h r g tf ta pf na ma wa cf ca ef ea xf xa]) (px_runV (As := [.ref sk231]) (rest := []) S (c_sg_equals l D cs sk2 st3 (mlen z1.toNatClampNeg) (mby z1.toNatClampNeg) sk231 st232 2 (lby ">>")   (show (mlen z1.toNatClampNeg) ≤ 1000000 from by first | exact oz_f8a16524ad e7 nc9 | omega) (show 2 ≤ 1000000 from by omega) _) hT (pr := [wdP cs h r g tf ta pf na ma wa cf ca ef ea xf xa]) (pcs := []) hw (oX_call (P := (fun A U H => (oZ A U H) ∧ (oS A sk2 st3 (mlen z1.toNatClampNeg) (mby z1.toNatClampNeg) U H) ∧ (oS A sk231 st232 2 (lby ">>") U H))) (pr := [wdP cs h r g tf ta pf na ma wa cf ca ef ea xf xa]) (oG_and oG_Z (oG_and oG_S oG_S)) hw hA ⟨hZ, hSsk2, hSsk231⟩) (oS_recv hw hSsk2) m11_225 m11_222 m11_223 m11_224 m1_3 q_String_equals ⟨Nat.le_of_ble_eq_true rfl, Nat.le_of_ble_eq_true rfl⟩ hl.1 rfl (Nat.le_of_ble_eq_true rfl) d_Mpg_two_123 ⟨Nat.le_of_ble_eq_true rfl, Nat.le_of_ble_eq_true rfl⟩) hw hA (fun v235 p234 H locs hp234 hw => ?_))
          obtain ⟨rfl, e236, e237⟩ := hp234
          have e236 := z_rng e236
          have e237 : R_sg_equals (mlen z1.toNatClampNeg) (mby z1.toNatClampNeg) 2 (lby ">>") v235 := e237
          have lv235 := Int32.le_toInt v235
          have uv235 := Int32.toInt_lt v235
          refine lv_if_eq (tgt := 135) S.x S.b d_Mpg_two_126 (by decide) (fun c238 => ?_) (fun c238 => ?_)
          · have nc238 : v235.toInt = (0 : Int) := (i_eq (x := v235) (y := 0)).mp c238
            refine lv_iload S.x S.b d_Mpg_two_135 (lv_at hl 0 rfl) ?_
            refine lv_if_eq (tgt := 144) S.x S.b d_Mpg_two_137 (by decide) (fun c240 => ?_) (fun c240 => ?_)
            ·
              refine lv_iconst (v := 0) S.x S.b d_Mpg_two_144 (by decide) ?_
              exact px_iret (v := 0) S hr rfl hlk hAe hw (Nat.le_of_ble_eq_true rfl) (Nat.le_of_ble_eq_true rfl) (⟨cf, rfl, (show KpE cf cf from hke), (show WrV cf (tf 6).toInt from hwr), (show (cf 33).toInt = (cf 33).toInt from rfl), (show (cf 38).toInt = (cf 38).toInt from rfl), (show (cf 48).toInt = (cf 48).toInt from rfl), (show (cf 47).toInt = (cf 47).toInt from rfl), (show R_mp_two ta p0 p1 p2 cf cf (0 : Int32) from (Or.inl ⟨z1, ez1, v6, e8, Or.inr ⟨nc9, v65, e67, Or.inr ⟨nc68, Or.inl ⟨nc220, v226, e228, Or.inl ⟨nc229, v235, e237, Or.inl ⟨nc238, rfl, rfl⟩⟩⟩⟩⟩⟩))⟩) d_Mpg_two_145
            · exact absurd c240 (by decide)
          · have nc238 : ¬ v235.toInt = (0 : Int) := mt (i_eq (x := v235) (y := 0)).mpr c238
            refine lv_iload_n S.x S.b d_Mpg_two_129 rfl (lv_at hl 4 rfl) ?_
            refine lv_iload_n S.x S.b d_Mpg_two_130 rfl (lv_at hl 5 rfl) ?_
            refine lv_ishr S.x S.b d_Mpg_two_131 ?_
            refine lv_topi (fun z241 ez241 => ?_)
            have lz241 := Int32.le_toInt z241
            have uz241 := Int32.toInt_lt z241
            refine lv_goto (tgt := 145) S.x S.b d_Mpg_two_132 (by decide) ?_
            exact px_iret (v := z241) S hr rfl hlk hAe hw (Nat.le_of_ble_eq_true rfl) (Nat.le_of_ble_eq_true rfl) (⟨cf, rfl, (show KpE cf cf from hke), (show WrV cf (tf 6).toInt from hwr), (show (cf 33).toInt = (cf 33).toInt from rfl), (show (cf 38).toInt = (cf 38).toInt from rfl), (show (cf 48).toInt = (cf 48).toInt from rfl), (show (cf 47).toInt = (cf 47).toInt from rfl), (show R_mp_two ta p0 p1 p2 cf cf z241 from (Or.inl ⟨z1, ez1, v6, e8, Or.inr ⟨nc9, v65, e67, Or.inr ⟨nc68, Or.inl ⟨nc220, v226, e228, Or.inl ⟨nc229, v235, e237, Or.inr ⟨nc238, z241, ez241, rfl, rfl⟩⟩⟩⟩⟩⟩))⟩) d_Mpg_two_145
        · have nc229 : ¬ v226.toInt = (0 : Int) := mt (i_eq (x := v226) (y := 0)).mpr c229
          refine lv_iload_n S.x S.b d_Mpg_two_113 rfl (lv_at hl 4 rfl) ?_
          refine lv_iload_n S.x S.b d_Mpg_two_114 rfl (lv_at hl 5 rfl) ?_
          refine lv_ishl S.x S.b d_Mpg_two_115 ?_
          refine lv_topi (fun z242 ez242 => ?_)
          have lz242 := Int32.le_toInt z242
          have uz242 := Int32.toInt_lt z242
          refine lv_goto (tgt := 145) S.x S.b d_Mpg_two_116 (by decide) ?_
          exact px_iret (v := z242) S hr rfl hlk hAe hw (Nat.le_of_ble_eq_true rfl) (Nat.le_of_ble_eq_true rfl) (⟨cf, rfl, (show KpE cf cf from hke), (show WrV cf (tf 6).toInt from hwr), (show (cf 33).toInt = (cf 33).toInt from rfl), (show (cf 38).toInt = (cf 38).toInt from rfl), (show (cf 48).toInt = (cf 48).toInt from rfl), (show (cf 47).toInt = (cf 47).toInt from rfl), (show R_mp_two ta p0 p1 p2 cf cf z242 from (Or.inl ⟨z1, ez1, v6, e8, Or.inr ⟨nc9, v65, e67, Or.inr ⟨nc68, Or.inl ⟨nc220, v226, e228, Or.inr ⟨nc229, z242, ez242, rfl, rfl⟩⟩⟩⟩⟩))⟩) d_Mpg_two_145
      · have nc220 : p1.toInt = p2.toInt := (i_eq (x := p1) (y := p2)).mp c220
        refine lv_iconst (v := 1) S.x S.b d_Mpg_two_37 (by decide) ?_
        refine lv_goto (tgt := 101) S.x S.b d_Mpg_two_38 (by decide) ?_
        refine lv_istore (lv' := [(5, .int 1), (4, .ref sk2), (0, .ref h), (1, .int p0), (2, .int p1), (3, .int p2)]) S.x S.b d_Mpg_two_101 hl (by decide) rfl (fun ls hl => ?_)
        refine lv_aload S.x S.b d_Mpg_two_103 (lv_at hl 1 rfl) ?_
        obtain ⟨sk243, hRsk243, st244, hSsk243⟩ := oP_litB hP (k := 79) (tx := "<<") (n := 2) (List.mem_of_getElem? (i := 31) rfl)
        refine va_ldcS S.x S.b S.own hRsk243 d_Mpg_two_105 ?_
        first | refine px_calli (pr := [wdP cs h r g tf ta pf na ma wa cf ca ef ea xf xa]) (px_runV (As := [.ref sk243]) (rest := []) S (c_sg_equals l D cs sk2 st3 (mlen z1.toNatClampNeg) (mby z1.toNatClampNeg) sk243 st244 2 (lby "<<")   (show (mlen z1.toNatClampNeg) ≤ 1000000 from (oz_f8a16524ad e7 nc9)) (show 2 ≤ 1000000 from by omega) _) hT (pr := [wdP cs h r g tf ta pf na ma wa cf ca ef ea xf xa]) (pcs := []) hw (oX_call (P := (fun A U H => (oZ A U H) ∧ (oS A sk2 st3 (mlen z1.toNatClampNeg) (mby z1.toNatClampNeg) U H) ∧ (oS A sk243 st244 2 (lby "<<") U H))) (pr := [wdP cs h r g tf ta pf na ma wa cf ca ef ea xf xa]) (oG_and oG_Z (oG_and oG_S oG_S)) hw hA ⟨hZ, hSsk2, hSsk243⟩) (oS_recv hw hSsk2) m11_225 m11_222 m11_223 m11_224 m1_3 q_String_equals ⟨Nat.le_of_ble_eq_true rfl, Nat.le_of_ble_eq_true rfl⟩ hl.1 rfl (Nat.le_of_ble_eq_true rfl) d_Mpg_two_107 ⟨Nat.le_of_ble_eq_true rfl, Nat.le_of_ble_eq_true rfl⟩) hw hA (fun v247 p246 H locs hp246 hw => ?_) | (refine px_calli (pr := [wdP cs h r g tf ta pf na ma wa cf ca ef ea xf xa]) (px_runV (As := [.ref sk243]) (rest := []) S (c_sg_equals l D cs sk2 st3 (mlen z1.toNatClampNeg) (mby z1.toNatClampNeg) sk243 st244 2 (lby "<<")   (show (mlen z1.toNatClampNeg) ≤ 1000000 from by first | exact oz_f8a16524ad e7 nc9 | omega) (show 2 ≤ 1000000 from by omega) _) hT (pr := [wdP cs h r g tf ta pf na ma wa cf ca ef ea xf xa]) (pcs := []) hw (oX_call (P := (fun A U H => (oZ A U H) ∧ (oS A sk2 st3 (mlen z1.toNatClampNeg) (mby z1.toNatClampNeg) U H) ∧ (oS A sk243 st244 2 (lby "<<") U H))) (pr := [wdP cs h r g tf ta pf na ma wa cf ca ef ea xf xa]) (oG_and oG_Z (oG_and oG_S oG_S)) hw hA ⟨hZ, hSsk2, hSsk243⟩) (oS_recv hw hSsk2) m11_225 m11_222 m11_223 m11_224 m1_3 q_String_equals ⟨Nat.le_of_ble_eq_true rfl, Nat.le_of_ble_eq_true rfl⟩ hl.1 rfl (Nat.le_of_ble_eq_true rfl) d_Mpg_two_107 ⟨Nat.le_of_ble_eq_true rfl, Nat.le_of_ble_eq_true rfl⟩) hw hA (fun v247 p246 H locs hp246 hw => ?_))
        obtain ⟨rfl, e248, e249⟩ := hp246
        have e248 := z_rng e248
        have e249 : R_sg_equals (mlen z1.toNatClampNeg) (mby z1.toNatClampNeg) 2 (lby "<<") v247 := e249
        have lv247 := Int32.le_toInt v247
        have uv247 := Int32.toInt_lt v247
        refine lv_if_eq (tgt := 119) S.x S.b d_Mpg_two_110 (by decide) (fun c250 => ?_) (fun c250 => ?_)
        · have nc250 : v247.toInt = (0 : Int) := (i_eq (x := v247) (y := 0)).mp c250
          refine lv_aload S.x S.b d_Mpg_two_119 (lv_at hl 1 rfl) ?_
          obtain ⟨sk252, hRsk252, st253, hSsk252⟩ := oP_litB hP (k := 81) (tx := ">>") (n := 2) (List.mem_of_getElem? (i := 32) rfl)
          refine va_ldcS S.x S.b S.own hRsk252 d_Mpg_two_121 ?_
          first | refine px_calli (pr := [wdP cs h r g tf ta pf na ma wa cf ca ef ea xf xa]) (px_runV (As := [.ref sk252]) (rest := []) S (c_sg_equals l D cs sk2 st3 (mlen z1.toNatClampNeg) (mby z1.toNatClampNeg) sk252 st253 2 (lby ">>")   (show (mlen z1.toNatClampNeg) ≤ 1000000 from (oz_f8a16524ad e7 nc9)) (show 2 ≤ 1000000 from by omega) _) hT (pr := [wdP cs h r g tf ta pf na ma wa cf ca ef ea xf xa]) (pcs := []) hw (oX_call (P := (fun A U H => (oZ A U H) ∧ (oS A sk2 st3 (mlen z1.toNatClampNeg) (mby z1.toNatClampNeg) U H) ∧ (oS A sk252 st253 2 (lby ">>") U H))) (pr := [wdP cs h r g tf ta pf na ma wa cf ca ef ea xf xa]) (oG_and oG_Z (oG_and oG_S oG_S)) hw hA ⟨hZ, hSsk2, hSsk252⟩) (oS_recv hw hSsk2) m11_225 m11_222 m11_223 m11_224 m1_3 q_String_equals ⟨Nat.le_of_ble_eq_true rfl, Nat.le_of_ble_eq_true rfl⟩ hl.1 rfl (Nat.le_of_ble_eq_true rfl) d_Mpg_two_123 ⟨Nat.le_of_ble_eq_true rfl, Nat.le_of_ble_eq_true rfl⟩) hw hA (fun v256 p255 H locs hp255 hw => ?_) | (refine px_calli (pr := [wdP cs h r g tf ta pf na ma wa cf ca ef ea xf xa]) (px_runV (As := [.ref sk252]) (rest := []) S (c_sg_equals l D cs sk2 st3 (mlen z1.toNatClampNeg) (mby z1.toNatClampNeg) sk252 st253 2 (lby ">>")   (show (mlen z1.toNatClampNeg) ≤ 1000000 from by first | exact oz_f8a16524ad e7 nc9 | omega) (show 2 ≤ 1000000 from by omega) _) hT (pr := [wdP cs h r g tf ta pf na ma wa cf ca ef ea xf xa]) (pcs := []) hw (oX_call (P := (fun A U H => (oZ A U H) ∧ (oS A sk2 st3 (mlen z1.toNatClampNeg) (mby z1.toNatClampNeg) U H) ∧ (oS A sk252 st253 2 (lby ">>") U H))) (pr := [wdP cs h r g tf ta pf na ma wa cf ca ef ea xf xa]) (oG_and oG_Z (oG_and oG_S oG_S)) hw hA ⟨hZ, hSsk2, hSsk252⟩) (oS_recv hw hSsk2) m11_225 m11_222 m11_223 m11_224 m1_3 q_String_equals ⟨Nat.le_of_ble_eq_true rfl, Nat.le_of_ble_eq_true rfl⟩ hl.1 rfl (Nat.le_of_ble_eq_true rfl) d_Mpg_two_123 ⟨Nat.le_of_ble_eq_true rfl, Nat.le_of_ble_eq_true rfl⟩) hw hA (fun v256 p255 H locs hp255 hw => ?_))
          obtain ⟨rfl, e257, e258⟩ := hp255
          have e257 := z_rng e257
          have e258 : R_sg_equals (mlen z1.toNatClampNeg) (mby z1.toNatClampNeg) 2 (lby ">>") v256 := e258
          have lv256 := Int32.le_toInt v256
          have uv256 := Int32.toInt_lt v256
          refine lv_if_eq (tgt := 135) S.x S.b d_Mpg_two_126 (by decide) (fun c259 => ?_) (fun c259 => ?_)
          · have nc259 : v256.toInt = (0 : Int) := (i_eq (x := v256) (y := 0)).mp c259
            refine lv_iload S.x S.b d_Mpg_two_135 (lv_at hl 0 rfl) ?_
            refine lv_if_eq (tgt := 144) S.x S.b d_Mpg_two_137 (by decide) (fun c261 => ?_) (fun c261 => ?_)
            · exact absurd c261 (by decide)
            ·
              refine lv_iconst (v := 1) S.x S.b d_Mpg_two_140 (by decide) ?_
              refine lv_goto (tgt := 145) S.x S.b d_Mpg_two_141 (by decide) ?_
              exact px_iret (v := 1) S hr rfl hlk hAe hw (Nat.le_of_ble_eq_true rfl) (Nat.le_of_ble_eq_true rfl) (⟨cf, rfl, (show KpE cf cf from hke), (show WrV cf (tf 6).toInt from hwr), (show (cf 33).toInt = (cf 33).toInt from rfl), (show (cf 38).toInt = (cf 38).toInt from rfl), (show (cf 48).toInt = (cf 48).toInt from rfl), (show (cf 47).toInt = (cf 47).toInt from rfl), (show R_mp_two ta p0 p1 p2 cf cf (1 : Int32) from (Or.inl ⟨z1, ez1, v6, e8, Or.inr ⟨nc9, v65, e67, Or.inr ⟨nc68, Or.inr ⟨nc220, v247, e249, Or.inl ⟨nc250, v256, e258, Or.inl ⟨nc259, rfl, rfl⟩⟩⟩⟩⟩⟩))⟩) d_Mpg_two_145
          · have nc259 : ¬ v256.toInt = (0 : Int) := mt (i_eq (x := v256) (y := 0)).mpr c259
            refine lv_iload_n S.x S.b d_Mpg_two_129 rfl (lv_at hl 4 rfl) ?_
            refine lv_iload_n S.x S.b d_Mpg_two_130 rfl (lv_at hl 5 rfl) ?_
            refine lv_ishr S.x S.b d_Mpg_two_131 ?_
            refine lv_topi (fun z262 ez262 => ?_)
            have lz262 := Int32.le_toInt z262
            have uz262 := Int32.toInt_lt z262
            refine lv_goto (tgt := 145) S.x S.b d_Mpg_two_132 (by decide) ?_
            exact px_iret (v := z262) S hr rfl hlk hAe hw (Nat.le_of_ble_eq_true rfl) (Nat.le_of_ble_eq_true rfl) (⟨cf, rfl, (show KpE cf cf from hke), (show WrV cf (tf 6).toInt from hwr), (show (cf 33).toInt = (cf 33).toInt from rfl), (show (cf 38).toInt = (cf 38).toInt from rfl), (show (cf 48).toInt = (cf 48).toInt from rfl), (show (cf 47).toInt = (cf 47).toInt from rfl), (show R_mp_two ta p0 p1 p2 cf cf z262 from (Or.inl ⟨z1, ez1, v6, e8, Or.inr ⟨nc9, v65, e67, Or.inr ⟨nc68, Or.inr ⟨nc220, v247, e249, Or.inl ⟨nc250, v256, e258, Or.inr ⟨nc259, z262, ez262, rfl, rfl⟩⟩⟩⟩⟩⟩))⟩) d_Mpg_two_145
        · have nc250 : ¬ v247.toInt = (0 : Int) := mt (i_eq (x := v247) (y := 0)).mpr c250
          refine lv_iload_n S.x S.b d_Mpg_two_113 rfl (lv_at hl 4 rfl) ?_
          refine lv_iload_n S.x S.b d_Mpg_two_114 rfl (lv_at hl 5 rfl) ?_
          refine lv_ishl S.x S.b d_Mpg_two_115 ?_
          refine lv_topi (fun z263 ez263 => ?_)
          have lz263 := Int32.le_toInt z263
          have uz263 := Int32.toInt_lt z263
          refine lv_goto (tgt := 145) S.x S.b d_Mpg_two_116 (by decide) ?_
          exact px_iret (v := z263) S hr rfl hlk hAe hw (Nat.le_of_ble_eq_true rfl) (Nat.le_of_ble_eq_true rfl) (⟨cf, rfl, (show KpE cf cf from hke), (show WrV cf (tf 6).toInt from hwr), (show (cf 33).toInt = (cf 33).toInt from rfl), (show (cf 38).toInt = (cf 38).toInt from rfl), (show (cf 48).toInt = (cf 48).toInt from rfl), (show (cf 47).toInt = (cf 47).toInt from rfl), (show R_mp_two ta p0 p1 p2 cf cf z263 from (Or.inl ⟨z1, ez1, v6, e8, Or.inr ⟨nc9, v65, e67, Or.inr ⟨nc68, Or.inr ⟨nc220, v247, e249, Or.inr ⟨nc250, z263, ez263, rfl, rfl⟩⟩⟩⟩⟩))⟩) d_Mpg_two_145
