theorem m10_37 : Cond.fieldLink "HomeSystemModel$Program" 602 "HomeSystemModel$Program" "badK" "Z" ∈ AL := AL_10 (List.mem_of_getElem? (i := 37) rfl) rfl
abbrev b_Mpg_two : ByteArray := prog_16_method_85_code
def y_Mpg_two : MethodName := ⟨"HomeSystemModel$Program", "two", "(III)I"⟩
theorem d_Mpg_two_0 : decode b_Mpg_two 0 = .ok (.aload_n 0, 1) := by decide +kernel
theorem d_Mpg_two_1 : decode b_Mpg_two 1 = .ok (.getfield 133, 3) := by decide +kernel
theorem d_Mpg_two_4 : decode b_Mpg_two 4 = .ok (.aload_n 0, 1) := by decide +kernel
theorem d_Mpg_two_5 : decode b_Mpg_two 5 = .ok (.getfield 204, 3) := by decide +kernel
theorem d_Mpg_two_8 : decode b_Mpg_two 8 = .ok (.iload_n 1, 1) := by decide +kernel
theorem d_Mpg_two_9 : decode b_Mpg_two 9 = .ok (.iaload, 1) := by decide +kernel
theorem d_Mpg_two_10 : decode b_Mpg_two 10 = .ok (.aaload, 1) := by decide +kernel
theorem d_Mpg_two_11 : decode b_Mpg_two 11 = .ok (.astore 4, 2) := by decide +kernel
theorem d_Mpg_two_13 : decode b_Mpg_two 13 = .ok (.aload 4, 2) := by decide +kernel
theorem d_Mpg_two_15 : decode b_Mpg_two 15 = .ok (.invokevirtual 307, 3) := by decide +kernel
theorem d_Mpg_two_18 : decode b_Mpg_two 18 = .ok (.iconst 2, 1) := by decide +kernel
theorem d_Mpg_two_19 : decode b_Mpg_two 19 = .ok (.if_icmp .ne 127, 3) := by decide +kernel
theorem d_Mpg_two_22 : decode b_Mpg_two 22 = .ok (.aload 4, 2) := by decide +kernel
theorem d_Mpg_two_24 : decode b_Mpg_two 24 = .ok (.ldc 71, 2) := by decide +kernel
theorem d_Mpg_two_26 : decode b_Mpg_two 26 = .ok (.invokevirtual 356, 3) := by decide +kernel
theorem d_Mpg_two_29 : decode b_Mpg_two 29 = .ok (.ifCond .eq 16, 3) := by decide +kernel
theorem d_Mpg_two_32 : decode b_Mpg_two 32 = .ok (.iload_n 2, 1) := by decide +kernel
theorem d_Mpg_two_33 : decode b_Mpg_two 33 = .ok (.iload_n 3, 1) := by decide +kernel
theorem d_Mpg_two_34 : decode b_Mpg_two 34 = .ok (.if_icmp .ne 7, 3) := by decide +kernel
theorem d_Mpg_two_37 : decode b_Mpg_two 37 = .ok (.iconst 1, 1) := by decide +kernel
theorem d_Mpg_two_38 : decode b_Mpg_two 38 = .ok (.goto 63, 3) := by decide +kernel
theorem d_Mpg_two_41 : decode b_Mpg_two 41 = .ok (.iconst 0, 1) := by decide +kernel
theorem d_Mpg_two_42 : decode b_Mpg_two 42 = .ok (.goto 59, 3) := by decide +kernel
theorem d_Mpg_two_45 : decode b_Mpg_two 45 = .ok (.aload 4, 2) := by decide +kernel
theorem d_Mpg_two_47 : decode b_Mpg_two 47 = .ok (.ldc 73, 2) := by decide +kernel
theorem d_Mpg_two_49 : decode b_Mpg_two 49 = .ok (.invokevirtual 356, 3) := by decide +kernel
theorem d_Mpg_two_52 : decode b_Mpg_two 52 = .ok (.ifCond .eq 16, 3) := by decide +kernel
theorem d_Mpg_two_55 : decode b_Mpg_two 55 = .ok (.iload_n 2, 1) := by decide +kernel
theorem d_Mpg_two_56 : decode b_Mpg_two 56 = .ok (.iload_n 3, 1) := by decide +kernel
theorem d_Mpg_two_57 : decode b_Mpg_two 57 = .ok (.if_icmp .eq 7, 3) := by decide +kernel
theorem d_Mpg_two_60 : decode b_Mpg_two 60 = .ok (.iconst 1, 1) := by decide +kernel
theorem d_Mpg_two_61 : decode b_Mpg_two 61 = .ok (.goto 40, 3) := by decide +kernel
theorem d_Mpg_two_64 : decode b_Mpg_two 64 = .ok (.iconst 0, 1) := by decide +kernel
theorem d_Mpg_two_65 : decode b_Mpg_two 65 = .ok (.goto 36, 3) := by decide +kernel
theorem d_Mpg_two_68 : decode b_Mpg_two 68 = .ok (.aload 4, 2) := by decide +kernel
theorem d_Mpg_two_70 : decode b_Mpg_two 70 = .ok (.ldc 75, 2) := by decide +kernel
theorem d_Mpg_two_72 : decode b_Mpg_two 72 = .ok (.invokevirtual 356, 3) := by decide +kernel
theorem d_Mpg_two_75 : decode b_Mpg_two 75 = .ok (.ifCond .eq 16, 3) := by decide +kernel
theorem d_Mpg_two_78 : decode b_Mpg_two 78 = .ok (.iload_n 2, 1) := by decide +kernel
theorem d_Mpg_two_79 : decode b_Mpg_two 79 = .ok (.iload_n 3, 1) := by decide +kernel
theorem d_Mpg_two_80 : decode b_Mpg_two 80 = .ok (.if_icmp .gt 7, 3) := by decide +kernel
theorem d_Mpg_two_83 : decode b_Mpg_two 83 = .ok (.iconst 1, 1) := by decide +kernel
theorem d_Mpg_two_84 : decode b_Mpg_two 84 = .ok (.goto 17, 3) := by decide +kernel
theorem d_Mpg_two_87 : decode b_Mpg_two 87 = .ok (.iconst 0, 1) := by decide +kernel
theorem d_Mpg_two_88 : decode b_Mpg_two 88 = .ok (.goto 13, 3) := by decide +kernel
theorem d_Mpg_two_91 : decode b_Mpg_two 91 = .ok (.iload_n 2, 1) := by decide +kernel
theorem d_Mpg_two_92 : decode b_Mpg_two 92 = .ok (.iload_n 3, 1) := by decide +kernel
theorem d_Mpg_two_93 : decode b_Mpg_two 93 = .ok (.if_icmp .lt 7, 3) := by decide +kernel
theorem d_Mpg_two_96 : decode b_Mpg_two 96 = .ok (.iconst 1, 1) := by decide +kernel
theorem d_Mpg_two_97 : decode b_Mpg_two 97 = .ok (.goto 4, 3) := by decide +kernel
theorem d_Mpg_two_100 : decode b_Mpg_two 100 = .ok (.iconst 0, 1) := by decide +kernel
theorem d_Mpg_two_101 : decode b_Mpg_two 101 = .ok (.istore 5, 2) := by decide +kernel
theorem d_Mpg_two_103 : decode b_Mpg_two 103 = .ok (.aload 4, 2) := by decide +kernel
theorem d_Mpg_two_105 : decode b_Mpg_two 105 = .ok (.ldc 79, 2) := by decide +kernel
theorem d_Mpg_two_107 : decode b_Mpg_two 107 = .ok (.invokevirtual 356, 3) := by decide +kernel
theorem d_Mpg_two_110 : decode b_Mpg_two 110 = .ok (.ifCond .eq 9, 3) := by decide +kernel
theorem d_Mpg_two_113 : decode b_Mpg_two 113 = .ok (.iload_n 2, 1) := by decide +kernel
theorem d_Mpg_two_114 : decode b_Mpg_two 114 = .ok (.iload_n 3, 1) := by decide +kernel
theorem d_Mpg_two_115 : decode b_Mpg_two 115 = .ok (.ishl, 1) := by decide +kernel
theorem d_Mpg_two_116 : decode b_Mpg_two 116 = .ok (.goto 29, 3) := by decide +kernel
theorem d_Mpg_two_119 : decode b_Mpg_two 119 = .ok (.aload 4, 2) := by decide +kernel
theorem d_Mpg_two_121 : decode b_Mpg_two 121 = .ok (.ldc 81, 2) := by decide +kernel
theorem d_Mpg_two_123 : decode b_Mpg_two 123 = .ok (.invokevirtual 356, 3) := by decide +kernel
theorem d_Mpg_two_126 : decode b_Mpg_two 126 = .ok (.ifCond .eq 9, 3) := by decide +kernel
theorem d_Mpg_two_129 : decode b_Mpg_two 129 = .ok (.iload_n 2, 1) := by decide +kernel
theorem d_Mpg_two_130 : decode b_Mpg_two 130 = .ok (.iload_n 3, 1) := by decide +kernel
theorem d_Mpg_two_131 : decode b_Mpg_two 131 = .ok (.ishr, 1) := by decide +kernel
theorem d_Mpg_two_132 : decode b_Mpg_two 132 = .ok (.goto 13, 3) := by decide +kernel
theorem d_Mpg_two_135 : decode b_Mpg_two 135 = .ok (.iload 5, 2) := by decide +kernel
theorem d_Mpg_two_137 : decode b_Mpg_two 137 = .ok (.ifCond .eq 7, 3) := by decide +kernel
theorem d_Mpg_two_140 : decode b_Mpg_two 140 = .ok (.iconst 1, 1) := by decide +kernel
theorem d_Mpg_two_141 : decode b_Mpg_two 141 = .ok (.goto 4, 3) := by decide +kernel
theorem d_Mpg_two_144 : decode b_Mpg_two 144 = .ok (.iconst 0, 1) := by decide +kernel
theorem d_Mpg_two_145 : decode b_Mpg_two 145 = .ok (.ireturn, 1) := by decide +kernel
theorem d_Mpg_two_146 : decode b_Mpg_two 146 = .ok (.aload 4, 2) := by decide +kernel
theorem d_Mpg_two_148 : decode b_Mpg_two 148 = .ok (.iconst 0, 1) := by decide +kernel
theorem d_Mpg_two_149 : decode b_Mpg_two 149 = .ok (.invokevirtual 310, 3) := by decide +kernel
theorem d_Mpg_two_152 : decode b_Mpg_two 152 = .ok (.lookupswitch 122 #[(38, 84), (42, 118), (43, 110), (45, 114), (60, 88), (62, 99), (94, 80), (124, 76)], 76) := by decide +kernel
theorem d_Mpg_two_228 : decode b_Mpg_two 228 = .ok (.iload_n 2, 1) := by decide +kernel
theorem d_Mpg_two_229 : decode b_Mpg_two 229 = .ok (.iload_n 3, 1) := by decide +kernel
theorem d_Mpg_two_230 : decode b_Mpg_two 230 = .ok (.ior, 1) := by decide +kernel
theorem d_Mpg_two_231 : decode b_Mpg_two 231 = .ok (.ireturn, 1) := by decide +kernel
theorem d_Mpg_two_232 : decode b_Mpg_two 232 = .ok (.iload_n 2, 1) := by decide +kernel
theorem d_Mpg_two_233 : decode b_Mpg_two 233 = .ok (.iload_n 3, 1) := by decide +kernel
theorem d_Mpg_two_234 : decode b_Mpg_two 234 = .ok (.ixor, 1) := by decide +kernel
theorem d_Mpg_two_235 : decode b_Mpg_two 235 = .ok (.ireturn, 1) := by decide +kernel
theorem d_Mpg_two_236 : decode b_Mpg_two 236 = .ok (.iload_n 2, 1) := by decide +kernel
theorem d_Mpg_two_237 : decode b_Mpg_two 237 = .ok (.iload_n 3, 1) := by decide +kernel
theorem d_Mpg_two_238 : decode b_Mpg_two 238 = .ok (.iand, 1) := by decide +kernel
theorem d_Mpg_two_239 : decode b_Mpg_two 239 = .ok (.ireturn, 1) := by decide +kernel
theorem d_Mpg_two_240 : decode b_Mpg_two 240 = .ok (.iload_n 2, 1) := by decide +kernel
theorem d_Mpg_two_241 : decode b_Mpg_two 241 = .ok (.iload_n 3, 1) := by decide +kernel
theorem d_Mpg_two_242 : decode b_Mpg_two 242 = .ok (.if_icmp .ge 7, 3) := by decide +kernel
theorem d_Mpg_two_245 : decode b_Mpg_two 245 = .ok (.iconst 1, 1) := by decide +kernel
theorem d_Mpg_two_246 : decode b_Mpg_two 246 = .ok (.goto 4, 3) := by decide +kernel
theorem d_Mpg_two_249 : decode b_Mpg_two 249 = .ok (.iconst 0, 1) := by decide +kernel
theorem d_Mpg_two_250 : decode b_Mpg_two 250 = .ok (.ireturn, 1) := by decide +kernel
theorem d_Mpg_two_251 : decode b_Mpg_two 251 = .ok (.iload_n 2, 1) := by decide +kernel
theorem d_Mpg_two_252 : decode b_Mpg_two 252 = .ok (.iload_n 3, 1) := by decide +kernel
theorem d_Mpg_two_253 : decode b_Mpg_two 253 = .ok (.if_icmp .le 7, 3) := by decide +kernel
theorem d_Mpg_two_256 : decode b_Mpg_two 256 = .ok (.iconst 1, 1) := by decide +kernel
theorem d_Mpg_two_257 : decode b_Mpg_two 257 = .ok (.goto 4, 3) := by decide +kernel
theorem d_Mpg_two_260 : decode b_Mpg_two 260 = .ok (.iconst 0, 1) := by decide +kernel
theorem d_Mpg_two_261 : decode b_Mpg_two 261 = .ok (.ireturn, 1) := by decide +kernel
theorem d_Mpg_two_262 : decode b_Mpg_two 262 = .ok (.iload_n 2, 1) := by decide +kernel
theorem d_Mpg_two_263 : decode b_Mpg_two 263 = .ok (.iload_n 3, 1) := by decide +kernel
theorem d_Mpg_two_264 : decode b_Mpg_two 264 = .ok (.iadd, 1) := by decide +kernel
theorem d_Mpg_two_265 : decode b_Mpg_two 265 = .ok (.ireturn, 1) := by decide +kernel
theorem d_Mpg_two_266 : decode b_Mpg_two 266 = .ok (.iload_n 2, 1) := by decide +kernel
theorem d_Mpg_two_267 : decode b_Mpg_two 267 = .ok (.iload_n 3, 1) := by decide +kernel
theorem d_Mpg_two_268 : decode b_Mpg_two 268 = .ok (.isub, 1) := by decide +kernel
theorem d_Mpg_two_269 : decode b_Mpg_two 269 = .ok (.ireturn, 1) := by decide +kernel
theorem d_Mpg_two_270 : decode b_Mpg_two 270 = .ok (.iload_n 2, 1) := by decide +kernel
theorem d_Mpg_two_271 : decode b_Mpg_two 271 = .ok (.iload_n 3, 1) := by decide +kernel
theorem d_Mpg_two_272 : decode b_Mpg_two 272 = .ok (.imul, 1) := by decide +kernel
theorem d_Mpg_two_273 : decode b_Mpg_two 273 = .ok (.ireturn, 1) := by decide +kernel
theorem d_Mpg_two_274 : decode b_Mpg_two 274 = .ok (.aload_n 0, 1) := by decide +kernel
theorem d_Mpg_two_275 : decode b_Mpg_two 275 = .ok (.aload_n 0, 1) := by decide +kernel
theorem d_Mpg_two_276 : decode b_Mpg_two 276 = .ok (.getfield 602, 3) := by decide +kernel
theorem d_Mpg_two_279 : decode b_Mpg_two 279 = .ok (.ifCond .ne 7, 3) := by decide +kernel
theorem d_Mpg_two_282 : decode b_Mpg_two 282 = .ok (.iload_n 3, 1) := by decide +kernel
theorem d_Mpg_two_283 : decode b_Mpg_two 283 = .ok (.ifCond .ne 7, 3) := by decide +kernel
theorem d_Mpg_two_286 : decode b_Mpg_two 286 = .ok (.iconst 1, 1) := by decide +kernel
theorem d_Mpg_two_287 : decode b_Mpg_two 287 = .ok (.goto 4, 3) := by decide +kernel
theorem d_Mpg_two_290 : decode b_Mpg_two 290 = .ok (.iconst 0, 1) := by decide +kernel
theorem d_Mpg_two_291 : decode b_Mpg_two 291 = .ok (.putfield 602, 3) := by decide +kernel
theorem d_Mpg_two_294 : decode b_Mpg_two 294 = .ok (.iload_n 3, 1) := by decide +kernel
theorem d_Mpg_two_295 : decode b_Mpg_two 295 = .ok (.ifCond .ne 7, 3) := by decide +kernel
theorem d_Mpg_two_298 : decode b_Mpg_two 298 = .ok (.iconst 0, 1) := by decide +kernel
theorem d_Mpg_two_299 : decode b_Mpg_two 299 = .ok (.goto 23, 3) := by decide +kernel
theorem d_Mpg_two_302 : decode b_Mpg_two 302 = .ok (.aload 4, 2) := by decide +kernel
theorem d_Mpg_two_304 : decode b_Mpg_two 304 = .ok (.iconst 0, 1) := by decide +kernel
theorem d_Mpg_two_305 : decode b_Mpg_two 305 = .ok (.invokevirtual 310, 3) := by decide +kernel
theorem d_Mpg_two_308 : decode b_Mpg_two 308 = .ok (.bipush 47, 2) := by decide +kernel
theorem d_Mpg_two_310 : decode b_Mpg_two 310 = .ok (.if_icmp .ne 9, 3) := by decide +kernel
theorem d_Mpg_two_313 : decode b_Mpg_two 313 = .ok (.iload_n 2, 1) := by decide +kernel
theorem d_Mpg_two_314 : decode b_Mpg_two 314 = .ok (.iload_n 3, 1) := by decide +kernel
theorem d_Mpg_two_315 : decode b_Mpg_two 315 = .ok (.idiv, 1) := by decide +kernel
theorem d_Mpg_two_316 : decode b_Mpg_two 316 = .ok (.goto 6, 3) := by decide +kernel
theorem d_Mpg_two_319 : decode b_Mpg_two 319 = .ok (.iload_n 2, 1) := by decide +kernel
theorem d_Mpg_two_320 : decode b_Mpg_two 320 = .ok (.iload_n 3, 1) := by decide +kernel
theorem d_Mpg_two_321 : decode b_Mpg_two 321 = .ok (.irem, 1) := by decide +kernel
theorem d_Mpg_two_322 : decode b_Mpg_two 322 = .ok (.ireturn, 1) := by decide +kernel
theorem q_Mpg_two : px_y y_Mpg_two 3 := by unfold px_y; decide +kernel
set_option maxHeartbeats 4000000 in
set_option maxRecDepth 100000 in
theorem c_mp_two (l : Launch) (D : va_G) (cs : Nat → ClassId) (h : Nat) (r : Nat → Nat) (g : Nat → Nat → Option Nat) (tf : Nat → Int32) (ta : Nat → Nat → Int32) (pf : Nat → Int32) (na : Nat → Nat → Int32) (ma : Nat → Nat → Int32) (wa : Nat → Nat → Int32) (ca : Nat → Nat → Int32) (ef : Nat → Int32) (ea : Nat → Nat → Int32) (xf : Nat → Int32) (xa : Nat → Nat → Int32) (cf : Nat → Int32) (p0 p1 p2 : Int32)  (g0 : 0 ≤ p0.toInt) (g1 : p0.toInt < (tf 6).toInt) (g2 : (tf 6).toInt ≤ 2049) (g3 : so ta p0 = 5) (htk : TkI tf ta) (hwr : WrV cf (tf 6).toInt) : MetI l y_Mpg_two b_Mpg_two 6 (.int) D cs 4 170 (0) (0) [.ref h, .int p0, .int p1, .int p2] [wdP cs h r g tf ta pf na ma wa cf ca ef ea xf xa] (oX (fun A U H => (oP A g U H)) [wdP cs h r g tf ta pf na ma wa cf ca ef ea xf xa]) (fun v ps => ∃ (cf' : Nat → Int32), (ps = [wdP cs h r g tf ta pf na ma wa cf' ca ef ea xf xa]) ∧ (KpE cf cf') ∧ (WrV cf' (tf 6).toInt) ∧ ((cf' 33).toInt = (cf 33).toInt) ∧ ((cf' 38).toInt = (cf 38).toInt) ∧ ((cf' 48).toInt = (cf 48).toInt) ∧ ((cf' 47).toInt = (cf 47).toInt)) := by
  refine px_enter (by decide) (Nat.le_of_ble_eq_true rfl) ?_
  intro p e s m below meth c A ls hAe S hr hlk hnm hA hT hX hw hl
  have hl : lv_has ls 6 [(0, .ref h), (1, .int p0), (2, .int p1), (3, .int p2)] := hl
  have lp0 := Int32.le_toInt p0
  have up0 := Int32.toInt_lt p0
  have lp1 := Int32.le_toInt p1
  have up1 := Int32.toInt_lt p1
  have lp2 := Int32.le_toInt p2
  have up2 := Int32.toInt_lt p2
  have cst0 : (0 : Int32).toInt = 0 := rfl
  have cst1 : (1 : Int32).toInt = 1 := rfl
  have cst2 : (2 : Int32).toInt = 2 := rfl
  have cst47 : (47 : Int32).toInt = 47 := rfl
  have hX : (fun A U H => (oP A g U H)) A s s.heap := by rw [hAe]; exact hX
  have hP := hX
  have hZ := hP.1
  have hF0 := hP.2.1
  have hke : KpE cf cf := KpE.rf
  refine lv_aload_n S.x S.b d_Mpg_two_0 rfl (lv_at hl 0 rfl) ?_
  refine px_get S k_Mpg hT hw 0 0 1 (v := .ref (r 1)) rfl rfl rfl (by decide) m9_224 d_Mpg_two_1 ?_
  refine lv_aload_n S.x S.b d_Mpg_two_4 rfl (lv_at hl 0 rfl) ?_
  refine px_get S k_Mpg hT hw 0 0 10 (v := .ref (r 10)) rfl rfl rfl (by decide) m9_234 d_Mpg_two_5 ?_
  refine lv_iload_n S.x S.b d_Mpg_two_8 rfl (lv_at hl 1 rfl) ?_
  refine px_iald S hT hw 0 9 (n := 2060) (f := (ta 10)) rfl gp_10 (x := p0) (vp_in_iff.mpr (by first | exact oz_846323bf3a g0 g1 g2 | (constructor <;> omega))) d_Mpg_two_9 ?_
  refine lv_topi (fun z1 ez1 => ?_)
  have lz1 := Int32.le_toInt z1
  have uz1 := Int32.toInt_lt z1
  have wz1 := tk_w5 htk (by first | with_reducible rfl | with_reducible assumption | omega) (by first | with_reducible rfl | with_reducible assumption | omega) ez1 (by first | with_reducible rfl | with_reducible assumption | omega)
  have hclsk2 := cl_nat (x := z1) (by first | exact wz1.1 | omega)
  obtain ⟨sk2, hgsk2, st3, sb4, hSsk2⟩ := oP_1 hP (i := z1.toNatClampNeg) (by first | with_reducible rfl | with_reducible assumption | omega)
  have hmsk2 := len_1 (i := z1.toNatClampNeg) (by first | with_reducible rfl | with_reducible assumption | omega)
  refine px_aaldS S hT hw 0 2 11 (n := 43) (f := (g 1)) rfl rfl rfl (x := z1) (vp_in_iff.mpr (by first | exact oz_00605904cf hclsk2 wz1.2.1 | (constructor <;> omega))) hgsk2 d_Mpg_two_10 ?_
  refine lv_astore (lv' := [(4, .ref sk2), (0, .ref h), (1, .int p0), (2, .int p1), (3, .int p2)]) S.x S.b d_Mpg_two_11 hl (by decide) rfl (fun ls hl => ?_)
  refine lv_aload S.x S.b d_Mpg_two_13 (lv_at hl 0 rfl) ?_
  refine px_calli (pr := [wdP cs h r g tf ta pf na ma wa cf ca ef ea xf xa]) (px_runV (As := []) (rest := []) S (c_String_length l D cs sk2 st3 (mlen z1.toNatClampNeg) sb4   (show (mlen z1.toNatClampNeg) ≤ 1000000 from by first | with_reducible rfl | with_reducible assumption | omega) _) hT (pr := [wdP cs h r g tf ta pf na ma wa cf ca ef ea xf xa]) (pcs := []) hw (oX_call (P := (fun A U H => (oZ A U H) ∧ (oS A sk2 st3 (mlen z1.toNatClampNeg) sb4 U H))) (pr := [wdP cs h r g tf ta pf na ma wa cf ca ef ea xf xa]) (oG_and oG_Z oG_S) hw hA ⟨hZ, hSsk2⟩) (oS_recv hw hSsk2) m1_58 m11_157 m1_56 m1_57 m1_3 q_String_length ⟨Nat.le_of_ble_eq_true rfl, Nat.le_of_ble_eq_true rfl⟩ hl.1 rfl (Nat.le_of_ble_eq_true rfl) d_Mpg_two_15 ⟨Nat.le_of_ble_eq_true rfl, Nat.le_of_ble_eq_true rfl⟩) hw hA (fun v6 p5 H locs hp5 hw => ?_)
  obtain ⟨rfl, e7⟩ := hp5
  have e7 : v6.toInt = ((mlen z1.toNatClampNeg) : Int) := e7
  have hw : pw D A s.heap H locs [wdP cs h r g tf ta pf na ma wa cf ca ef ea xf xa] := hw
  have lv6 := Int32.le_toInt v6
  have uv6 := Int32.toInt_lt v6
  refine lv_iconst (v := 2) S.x S.b d_Mpg_two_18 (by decide) ?_
  refine lv_icmp_ne (tgt := 146) S.x S.b d_Mpg_two_19 (by decide) (fun c8 => ?_) (fun c8 => ?_)
  · have nc8 : ¬ v6.toInt = (2 : Int) := mt (i_eq (x := v6) (y := 2)).mpr c8
    refine lv_aload S.x S.b d_Mpg_two_146 (lv_at hl 0 rfl) ?_
    refine lv_iconst (v := 0) S.x S.b d_Mpg_two_148 (by decide) ?_
    refine px_calli (pr := [wdP cs h r g tf ta pf na ma wa cf ca ef ea xf xa]) (px_runV (As := [.int 0]) (rest := []) S (c_String_charAt l D cs sk2 st3 (mlen z1.toNatClampNeg) sb4 0  (show (mlen z1.toNatClampNeg) ≤ 1000000 from by first | with_reducible rfl | with_reducible assumption | omega) (show 0 ≤ (0 : Int) from by first | decide | omega) (show (0 : Int) < ((mlen z1.toNatClampNeg) : Int) from by first | with_reducible rfl | with_reducible assumption | omega) _) hT (pr := [wdP cs h r g tf ta pf na ma wa cf ca ef ea xf xa]) (pcs := []) hw (oX_call (P := (fun A U H => (oF A U H) ∧ (oZ A U H) ∧ (oS A sk2 st3 (mlen z1.toNatClampNeg) sb4 U H))) (pr := [wdP cs h r g tf ta pf na ma wa cf ca ef ea xf xa]) (oG_and oG_F (oG_and oG_Z oG_S)) hw hA ⟨hF0, hZ, hSsk2⟩) (oS_recv hw hSsk2) m1_68 m11_162 m1_66 m1_67 m1_3 q_String_charAt ⟨Nat.le_of_ble_eq_true rfl, Nat.le_of_ble_eq_true rfl⟩ hl.1 rfl (Nat.le_of_ble_eq_true rfl) d_Mpg_two_149 ⟨Nat.le_of_ble_eq_true rfl, Nat.le_of_ble_eq_true rfl⟩) hw hA (fun v10 p9 H locs hp9 hw => ?_)
    obtain ⟨rfl, e11⟩ := hp9
    have e11 : narrow .char (.int v10) = .int v10 := e11
    have hw : pw D A s.heap H locs [wdP cs h r g tf ta pf na ma wa cf ca ef ea xf xa] := hw
    have lv10 := Int32.le_toInt v10
    have uv10 := Int32.toInt_lt v10
    refine px_lookupK S (dt := 274) [(236, [38]), (270, [42]), (262, [43]), (266, [45]), (240, [60]), (251, [62]), (232, [94]), (228, [124])] d_Mpg_two_152 (by decide +kernel) (by decide) (by decide +kernel) ?_ ?_
    ·
      refine lv_aload_n S.x S.b d_Mpg_two_274 rfl (lv_at hl 1 rfl) ?_
      refine lv_aload_n S.x S.b d_Mpg_two_275 rfl (lv_at hl 1 rfl) ?_
      refine px_get S k_Mpg hT hw 0 0 46 (v := .int (cf 46)) rfl rfl rfl (by decide) m10_37 d_Mpg_two_276 ?_
      refine lv_if_ne (tgt := 286) S.x S.b d_Mpg_two_279 (by decide) (fun c12 => ?_) (fun c12 => ?_)
      · have nc12 : ¬ (cf 46).toInt = (0 : Int) := mt (i_eq (x := (cf 46)) (y := 0)).mpr c12
        refine lv_iconst (v := 1) S.x S.b d_Mpg_two_286 (by decide) ?_
        refine lv_goto (tgt := 291) S.x S.b d_Mpg_two_287 (by decide) ?_
        refine px_put S k_Mpg hT hw 0 0 46 rfl rfl (by decide) m10_37 rfl rfl rfl (Nat.le_of_ble_eq_true rfl) d_Mpg_two_291 (w' := wdP cs h r g tf ta pf na ma wa (upd cf 46 1) ca ef ea xf xa) (ps' := [wdP cs h r g tf ta pf na ma wa (upd cf 46 1) ca ef ea xf xa]) rfl rfl (fun H locs hw => ?_)
        refine lv_iload_n S.x S.b d_Mpg_two_294 rfl (lv_at hl 4 rfl) ?_
        refine lv_if_ne (tgt := 302) S.x S.b d_Mpg_two_295 (by decide) (fun c13 => ?_) (fun c13 => ?_)
        · have nc13 : ¬ p2.toInt = (0 : Int) := mt (i_eq (x := p2) (y := 0)).mpr c13
          refine lv_aload S.x S.b d_Mpg_two_302 (lv_at hl 0 rfl) ?_
          refine lv_iconst (v := 0) S.x S.b d_Mpg_two_304 (by decide) ?_
          refine px_calli (pr := [wdP cs h r g tf ta pf na ma wa (upd cf 46 1) ca ef ea xf xa]) (px_runV (As := [.int 0]) (rest := []) S (c_String_charAt l D cs sk2 st3 (mlen z1.toNatClampNeg) sb4 0  (show (mlen z1.toNatClampNeg) ≤ 1000000 from by first | with_reducible rfl | with_reducible assumption | omega) (show 0 ≤ (0 : Int) from by first | decide | omega) (show (0 : Int) < ((mlen z1.toNatClampNeg) : Int) from by first | with_reducible rfl | with_reducible assumption | omega) _) hT (pr := [wdP cs h r g tf ta pf na ma wa (upd cf 46 1) ca ef ea xf xa]) (pcs := []) hw (oX_call (P := (fun A U H => (oF A U H) ∧ (oZ A U H) ∧ (oS A sk2 st3 (mlen z1.toNatClampNeg) sb4 U H))) (pr := [wdP cs h r g tf ta pf na ma wa (upd cf 46 1) ca ef ea xf xa]) (oG_and oG_F (oG_and oG_Z oG_S)) hw hA ⟨hF0, hZ, hSsk2⟩) (oS_recv hw hSsk2) m1_68 m11_162 m1_66 m1_67 m1_3 q_String_charAt ⟨Nat.le_of_ble_eq_true rfl, Nat.le_of_ble_eq_true rfl⟩ hl.1 rfl (Nat.le_of_ble_eq_true rfl) d_Mpg_two_305 ⟨Nat.le_of_ble_eq_true rfl, Nat.le_of_ble_eq_true rfl⟩) hw hA (fun v15 p14 H locs hp14 hw => ?_)
          obtain ⟨rfl, e16⟩ := hp14
          have e16 : narrow .char (.int v15) = .int v15 := e16
          have hw : pw D A s.heap H locs [wdP cs h r g tf ta pf na ma wa (upd cf 46 1) ca ef ea xf xa] := hw
          have lv15 := Int32.le_toInt v15
          have uv15 := Int32.toInt_lt v15
          refine lv_bipush (v := 47) S.x S.b d_Mpg_two_308 (by decide) ?_
          refine lv_icmp_ne (tgt := 319) S.x S.b d_Mpg_two_310 (by decide) (fun c17 => ?_) (fun c17 => ?_)
          · have nc17 : ¬ v15.toInt = (47 : Int) := mt (i_eq (x := v15) (y := 47)).mpr c17
            refine lv_iload_n S.x S.b d_Mpg_two_319 rfl (lv_at hl 3 rfl) ?_
            refine lv_iload_n S.x S.b d_Mpg_two_320 rfl (lv_at hl 4 rfl) ?_
            refine lv_irem S.x S.b d_Mpg_two_321 (fun hz0 => by have hz1 := i_eq.mp hz0; omega) ?_
            refine lv_topi (fun z18 ez18 => ?_)
            have lz18 := Int32.le_toInt z18
            have uz18 := Int32.toInt_lt z18
            exact px_iret (v := z18) S hr rfl hlk hAe hw (Nat.le_of_ble_eq_true rfl) (Nat.le_of_ble_eq_true rfl) (⟨(upd cf 46 1), rfl, (show KpE cf (upd cf 46 1) from (KpE.u46 hke)), (show WrV (upd cf 46 1) (tf 6).toInt from (WrV.u hwr (by decide) (by decide))), (show (cf 33).toInt = (cf 33).toInt from rfl), (show (cf 38).toInt = (cf 38).toInt from rfl), (show (cf 48).toInt = (cf 48).toInt from rfl), (show (cf 47).toInt = (cf 47).toInt from rfl)⟩) d_Mpg_two_322
          · have nc17 : v15.toInt = (47 : Int) := (i_eq (x := v15) (y := 47)).mp c17
            refine lv_iload_n S.x S.b d_Mpg_two_313 rfl (lv_at hl 3 rfl) ?_
            refine lv_iload_n S.x S.b d_Mpg_two_314 rfl (lv_at hl 4 rfl) ?_
            refine lv_idiv S.x S.b d_Mpg_two_315 (fun hz0 => by have hz1 := i_eq.mp hz0; omega) ?_
            refine lv_topi (fun z19 ez19 => ?_)
            have lz19 := Int32.le_toInt z19
            have uz19 := Int32.toInt_lt z19
            refine lv_goto (tgt := 322) S.x S.b d_Mpg_two_316 (by decide) ?_
            exact px_iret (v := z19) S hr rfl hlk hAe hw (Nat.le_of_ble_eq_true rfl) (Nat.le_of_ble_eq_true rfl) (⟨(upd cf 46 1), rfl, (show KpE cf (upd cf 46 1) from (KpE.u46 hke)), (show WrV (upd cf 46 1) (tf 6).toInt from (WrV.u hwr (by decide) (by decide))), (show (cf 33).toInt = (cf 33).toInt from rfl), (show (cf 38).toInt = (cf 38).toInt from rfl), (show (cf 48).toInt = (cf 48).toInt from rfl), (show (cf 47).toInt = (cf 47).toInt from rfl)⟩) d_Mpg_two_322
        · have nc13 : p2.toInt = (0 : Int) := (i_eq (x := p2) (y := 0)).mp c13
          refine lv_iconst (v := 0) S.x S.b d_Mpg_two_298 (by decide) ?_
          refine lv_goto (tgt := 322) S.x S.b d_Mpg_two_299 (by decide) ?_
          exact px_iret (v := 0) S hr rfl hlk hAe hw (Nat.le_of_ble_eq_true rfl) (Nat.le_of_ble_eq_true rfl) (⟨(upd cf 46 1), rfl, (show KpE cf (upd cf 46 1) from (KpE.u46 hke)), (show WrV (upd cf 46 1) (tf 6).toInt from (WrV.u hwr (by decide) (by decide))), (show (cf 33).toInt = (cf 33).toInt from rfl), (show (cf 38).toInt = (cf 38).toInt from rfl), (show (cf 48).toInt = (cf 48).toInt from rfl), (show (cf 47).toInt = (cf 47).toInt from rfl)⟩) d_Mpg_two_322
      · have nc12 : (cf 46).toInt = (0 : Int) := (i_eq (x := (cf 46)) (y := 0)).mp c12
        refine lv_iload_n S.x S.b d_Mpg_two_282 rfl (lv_at hl 4 rfl) ?_
        refine lv_if_ne (tgt := 290) S.x S.b d_Mpg_two_283 (by decide) (fun c20 => ?_) (fun c20 => ?_)
        · have nc20 : ¬ p2.toInt = (0 : Int) := mt (i_eq (x := p2) (y := 0)).mpr c20
          refine lv_iconst (v := 0) S.x S.b d_Mpg_two_290 (by decide) ?_
          refine px_put S k_Mpg hT hw 0 0 46 rfl rfl (by decide) m10_37 rfl rfl rfl (Nat.le_of_ble_eq_true rfl) d_Mpg_two_291 (w' := wdP cs h r g tf ta pf na ma wa (upd cf 46 0) ca ef ea xf xa) (ps' := [wdP cs h r g tf ta pf na ma wa (upd cf 46 0) ca ef ea xf xa]) rfl rfl (fun H locs hw => ?_)
          refine lv_iload_n S.x S.b d_Mpg_two_294 rfl (lv_at hl 4 rfl) ?_
          refine lv_if_ne (tgt := 302) S.x S.b d_Mpg_two_295 (by decide) (fun c21 => ?_) (fun c21 => ?_)
          · have nc21 : ¬ p2.toInt = (0 : Int) := mt (i_eq (x := p2) (y := 0)).mpr c21
            refine lv_aload S.x S.b d_Mpg_two_302 (lv_at hl 0 rfl) ?_
            refine lv_iconst (v := 0) S.x S.b d_Mpg_two_304 (by decide) ?_
            refine px_calli (pr := [wdP cs h r g tf ta pf na ma wa (upd cf 46 0) ca ef ea xf xa]) (px_runV (As := [.int 0]) (rest := []) S (c_String_charAt l D cs sk2 st3 (mlen z1.toNatClampNeg) sb4 0  (show (mlen z1.toNatClampNeg) ≤ 1000000 from by first | with_reducible rfl | with_reducible assumption | omega) (show 0 ≤ (0 : Int) from by first | decide | omega) (show (0 : Int) < ((mlen z1.toNatClampNeg) : Int) from by first | with_reducible rfl | with_reducible assumption | omega) _) hT (pr := [wdP cs h r g tf ta pf na ma wa (upd cf 46 0) ca ef ea xf xa]) (pcs := []) hw (oX_call (P := (fun A U H => (oF A U H) ∧ (oZ A U H) ∧ (oS A sk2 st3 (mlen z1.toNatClampNeg) sb4 U H))) (pr := [wdP cs h r g tf ta pf na ma wa (upd cf 46 0) ca ef ea xf xa]) (oG_and oG_F (oG_and oG_Z oG_S)) hw hA ⟨hF0, hZ, hSsk2⟩) (oS_recv hw hSsk2) m1_68 m11_162 m1_66 m1_67 m1_3 q_String_charAt ⟨Nat.le_of_ble_eq_true rfl, Nat.le_of_ble_eq_true rfl⟩ hl.1 rfl (Nat.le_of_ble_eq_true rfl) d_Mpg_two_305 ⟨Nat.le_of_ble_eq_true rfl, Nat.le_of_ble_eq_true rfl⟩) hw hA (fun v23 p22 H locs hp22 hw => ?_)
            obtain ⟨rfl, e24⟩ := hp22
            have e24 : narrow .char (.int v23) = .int v23 := e24
            have hw : pw D A s.heap H locs [wdP cs h r g tf ta pf na ma wa (upd cf 46 0) ca ef ea xf xa] := hw
            have lv23 := Int32.le_toInt v23
            have uv23 := Int32.toInt_lt v23
            refine lv_bipush (v := 47) S.x S.b d_Mpg_two_308 (by decide) ?_
            refine lv_icmp_ne (tgt := 319) S.x S.b d_Mpg_two_310 (by decide) (fun c25 => ?_) (fun c25 => ?_)
            · have nc25 : ¬ v23.toInt = (47 : Int) := mt (i_eq (x := v23) (y := 47)).mpr c25
              refine lv_iload_n S.x S.b d_Mpg_two_319 rfl (lv_at hl 3 rfl) ?_
              refine lv_iload_n S.x S.b d_Mpg_two_320 rfl (lv_at hl 4 rfl) ?_
              refine lv_irem S.x S.b d_Mpg_two_321 (fun hz0 => by have hz1 := i_eq.mp hz0; omega) ?_
              refine lv_topi (fun z26 ez26 => ?_)
              have lz26 := Int32.le_toInt z26
              have uz26 := Int32.toInt_lt z26
              exact px_iret (v := z26) S hr rfl hlk hAe hw (Nat.le_of_ble_eq_true rfl) (Nat.le_of_ble_eq_true rfl) (⟨(upd cf 46 0), rfl, (show KpE cf (upd cf 46 0) from (KpE.u46 hke)), (show WrV (upd cf 46 0) (tf 6).toInt from (WrV.u hwr (by decide) (by decide))), (show (cf 33).toInt = (cf 33).toInt from rfl), (show (cf 38).toInt = (cf 38).toInt from rfl), (show (cf 48).toInt = (cf 48).toInt from rfl), (show (cf 47).toInt = (cf 47).toInt from rfl)⟩) d_Mpg_two_322
            · have nc25 : v23.toInt = (47 : Int) := (i_eq (x := v23) (y := 47)).mp c25
              refine lv_iload_n S.x S.b d_Mpg_two_313 rfl (lv_at hl 3 rfl) ?_
              refine lv_iload_n S.x S.b d_Mpg_two_314 rfl (lv_at hl 4 rfl) ?_
              refine lv_idiv S.x S.b d_Mpg_two_315 (fun hz0 => by have hz1 := i_eq.mp hz0; omega) ?_
              refine lv_topi (fun z27 ez27 => ?_)
              have lz27 := Int32.le_toInt z27
              have uz27 := Int32.toInt_lt z27
              refine lv_goto (tgt := 322) S.x S.b d_Mpg_two_316 (by decide) ?_
              exact px_iret (v := z27) S hr rfl hlk hAe hw (Nat.le_of_ble_eq_true rfl) (Nat.le_of_ble_eq_true rfl) (⟨(upd cf 46 0), rfl, (show KpE cf (upd cf 46 0) from (KpE.u46 hke)), (show WrV (upd cf 46 0) (tf 6).toInt from (WrV.u hwr (by decide) (by decide))), (show (cf 33).toInt = (cf 33).toInt from rfl), (show (cf 38).toInt = (cf 38).toInt from rfl), (show (cf 48).toInt = (cf 48).toInt from rfl), (show (cf 47).toInt = (cf 47).toInt from rfl)⟩) d_Mpg_two_322
          · have nc21 : p2.toInt = (0 : Int) := (i_eq (x := p2) (y := 0)).mp c21
            refine lv_iconst (v := 0) S.x S.b d_Mpg_two_298 (by decide) ?_
            refine lv_goto (tgt := 322) S.x S.b d_Mpg_two_299 (by decide) ?_
            exact px_iret (v := 0) S hr rfl hlk hAe hw (Nat.le_of_ble_eq_true rfl) (Nat.le_of_ble_eq_true rfl) (⟨(upd cf 46 0), rfl, (show KpE cf (upd cf 46 0) from (KpE.u46 hke)), (show WrV (upd cf 46 0) (tf 6).toInt from (WrV.u hwr (by decide) (by decide))), (show (cf 33).toInt = (cf 33).toInt from rfl), (show (cf 38).toInt = (cf 38).toInt from rfl), (show (cf 48).toInt = (cf 48).toInt from rfl), (show (cf 47).toInt = (cf 47).toInt from rfl)⟩) d_Mpg_two_322
        · have nc20 : p2.toInt = (0 : Int) := (i_eq (x := p2) (y := 0)).mp c20
          refine lv_iconst (v := 1) S.x S.b d_Mpg_two_286 (by decide) ?_
          refine lv_goto (tgt := 291) S.x S.b d_Mpg_two_287 (by decide) ?_
          refine px_put S k_Mpg hT hw 0 0 46 rfl rfl (by decide) m10_37 rfl rfl rfl (Nat.le_of_ble_eq_true rfl) d_Mpg_two_291 (w' := wdP cs h r g tf ta pf na ma wa (upd cf 46 1) ca ef ea xf xa) (ps' := [wdP cs h r g tf ta pf na ma wa (upd cf 46 1) ca ef ea xf xa]) rfl rfl (fun H locs hw => ?_)
          refine lv_iload_n S.x S.b d_Mpg_two_294 rfl (lv_at hl 4 rfl) ?_
          refine lv_if_ne (tgt := 302) S.x S.b d_Mpg_two_295 (by decide) (fun c28 => ?_) (fun c28 => ?_)
          · have nc28 : ¬ p2.toInt = (0 : Int) := mt (i_eq (x := p2) (y := 0)).mpr c28
            refine lv_aload S.x S.b d_Mpg_two_302 (lv_at hl 0 rfl) ?_
            refine lv_iconst (v := 0) S.x S.b d_Mpg_two_304 (by decide) ?_
            refine px_calli (pr := [wdP cs h r g tf ta pf na ma wa (upd cf 46 1) ca ef ea xf xa]) (px_runV (As := [.int 0]) (rest := []) S (c_String_charAt l D cs sk2 st3 (mlen z1.toNatClampNeg) sb4 0  (show (mlen z1.toNatClampNeg) ≤ 1000000 from by first | with_reducible rfl | with_reducible assumption | omega) (show 0 ≤ (0 : Int) from by first | decide | omega) (show (0 : Int) < ((mlen z1.toNatClampNeg) : Int) from by first | with_reducible rfl | with_reducible assumption | omega) _) hT (pr := [wdP cs h r g tf ta pf na ma wa (upd cf 46 1) ca ef ea xf xa]) (pcs := []) hw (oX_call (P := (fun A U H => (oF A U H) ∧ (oZ A U H) ∧ (oS A sk2 st3 (mlen z1.toNatClampNeg) sb4 U H))) (pr := [wdP cs h r g tf ta pf na ma wa (upd cf 46 1) ca ef ea xf xa]) (oG_and oG_F (oG_and oG_Z oG_S)) hw hA ⟨hF0, hZ, hSsk2⟩) (oS_recv hw hSsk2) m1_68 m11_162 m1_66 m1_67 m1_3 q_String_charAt ⟨Nat.le_of_ble_eq_true rfl, Nat.le_of_ble_eq_true rfl⟩ hl.1 rfl (Nat.le_of_ble_eq_true rfl) d_Mpg_two_305 ⟨Nat.le_of_ble_eq_true rfl, Nat.le_of_ble_eq_true rfl⟩) hw hA (fun v30 p29 H locs hp29 hw => ?_)
            obtain ⟨rfl, e31⟩ := hp29
            have e31 : narrow .char (.int v30) = .int v30 := e31
            have hw : pw D A s.heap H locs [wdP cs h r g tf ta pf na ma wa (upd cf 46 1) ca ef ea xf xa] := hw
            have lv30 := Int32.le_toInt v30
            have uv30 := Int32.toInt_lt v30
            refine lv_bipush (v := 47) S.x S.b d_Mpg_two_308 (by decide) ?_
            refine lv_icmp_ne (tgt := 319) S.x S.b d_Mpg_two_310 (by decide) (fun c32 => ?_) (fun c32 => ?_)
            · have nc32 : ¬ v30.toInt = (47 : Int) := mt (i_eq (x := v30) (y := 47)).mpr c32
              refine lv_iload_n S.x S.b d_Mpg_two_319 rfl (lv_at hl 3 rfl) ?_
              refine lv_iload_n S.x S.b d_Mpg_two_320 rfl (lv_at hl 4 rfl) ?_
              refine lv_irem S.x S.b d_Mpg_two_321 (fun hz0 => by have hz1 := i_eq.mp hz0; omega) ?_
              refine lv_topi (fun z33 ez33 => ?_)
              have lz33 := Int32.le_toInt z33
              have uz33 := Int32.toInt_lt z33
              exact px_iret (v := z33) S hr rfl hlk hAe hw (Nat.le_of_ble_eq_true rfl) (Nat.le_of_ble_eq_true rfl) (⟨(upd cf 46 1), rfl, (show KpE cf (upd cf 46 1) from (KpE.u46 hke)), (show WrV (upd cf 46 1) (tf 6).toInt from (WrV.u hwr (by decide) (by decide))), (show (cf 33).toInt = (cf 33).toInt from rfl), (show (cf 38).toInt = (cf 38).toInt from rfl), (show (cf 48).toInt = (cf 48).toInt from rfl), (show (cf 47).toInt = (cf 47).toInt from rfl)⟩) d_Mpg_two_322
            · have nc32 : v30.toInt = (47 : Int) := (i_eq (x := v30) (y := 47)).mp c32
              refine lv_iload_n S.x S.b d_Mpg_two_313 rfl (lv_at hl 3 rfl) ?_
              refine lv_iload_n S.x S.b d_Mpg_two_314 rfl (lv_at hl 4 rfl) ?_
              refine lv_idiv S.x S.b d_Mpg_two_315 (fun hz0 => by have hz1 := i_eq.mp hz0; omega) ?_
              refine lv_topi (fun z34 ez34 => ?_)
              have lz34 := Int32.le_toInt z34
              have uz34 := Int32.toInt_lt z34
              refine lv_goto (tgt := 322) S.x S.b d_Mpg_two_316 (by decide) ?_
              exact px_iret (v := z34) S hr rfl hlk hAe hw (Nat.le_of_ble_eq_true rfl) (Nat.le_of_ble_eq_true rfl) (⟨(upd cf 46 1), rfl, (show KpE cf (upd cf 46 1) from (KpE.u46 hke)), (show WrV (upd cf 46 1) (tf 6).toInt from (WrV.u hwr (by decide) (by decide))), (show (cf 33).toInt = (cf 33).toInt from rfl), (show (cf 38).toInt = (cf 38).toInt from rfl), (show (cf 48).toInt = (cf 48).toInt from rfl), (show (cf 47).toInt = (cf 47).toInt from rfl)⟩) d_Mpg_two_322
          · have nc28 : p2.toInt = (0 : Int) := (i_eq (x := p2) (y := 0)).mp c28
            refine lv_iconst (v := 0) S.x S.b d_Mpg_two_298 (by decide) ?_
            refine lv_goto (tgt := 322) S.x S.b d_Mpg_two_299 (by decide) ?_
            exact px_iret (v := 0) S hr rfl hlk hAe hw (Nat.le_of_ble_eq_true rfl) (Nat.le_of_ble_eq_true rfl) (⟨(upd cf 46 1), rfl, (show KpE cf (upd cf 46 1) from (KpE.u46 hke)), (show WrV (upd cf 46 1) (tf 6).toInt from (WrV.u hwr (by decide) (by decide))), (show (cf 33).toInt = (cf 33).toInt from rfl), (show (cf 38).toInt = (cf 38).toInt from rfl), (show (cf 48).toInt = (cf 48).toInt from rfl), (show (cf 47).toInt = (cf 47).toInt from rfl)⟩) d_Mpg_two_322
    · refine List.forall_mem_cons.mpr ⟨fun c35 => ?_, List.forall_mem_cons.mpr ⟨fun c35 => ?_, List.forall_mem_cons.mpr ⟨fun c35 => ?_, List.forall_mem_cons.mpr ⟨fun c35 => ?_, List.forall_mem_cons.mpr ⟨fun c35 => ?_, List.forall_mem_cons.mpr ⟨fun c35 => ?_, List.forall_mem_cons.mpr ⟨fun c35 => ?_, List.forall_mem_cons.mpr ⟨fun c35 => ?_, fun _ h => absurd h List.not_mem_nil⟩⟩⟩⟩⟩⟩⟩⟩
      · simp only [List.mem_cons, List.not_mem_nil, or_false] at c35
        refine lv_iload_n S.x S.b d_Mpg_two_236 rfl (lv_at hl 3 rfl) ?_
        refine lv_iload_n S.x S.b d_Mpg_two_237 rfl (lv_at hl 4 rfl) ?_
        refine lv_iand S.x S.b d_Mpg_two_238 ?_
        refine lv_topi (fun z36 ez36 => ?_)
        have lz36 := Int32.le_toInt z36
        have uz36 := Int32.toInt_lt z36
        exact px_iret (v := z36) S hr rfl hlk hAe hw (Nat.le_of_ble_eq_true rfl) (Nat.le_of_ble_eq_true rfl) (⟨cf, rfl, (show KpE cf cf from hke), (show WrV cf (tf 6).toInt from hwr), (show (cf 33).toInt = (cf 33).toInt from rfl), (show (cf 38).toInt = (cf 38).toInt from rfl), (show (cf 48).toInt = (cf 48).toInt from rfl), (show (cf 47).toInt = (cf 47).toInt from rfl)⟩) d_Mpg_two_239
      · simp only [List.mem_cons, List.not_mem_nil, or_false] at c35
        refine lv_iload_n S.x S.b d_Mpg_two_270 rfl (lv_at hl 3 rfl) ?_
        refine lv_iload_n S.x S.b d_Mpg_two_271 rfl (lv_at hl 4 rfl) ?_
        refine lv_imul S.x S.b d_Mpg_two_272 ?_
        refine lv_topi (fun z37 ez37 => ?_)
        have lz37 := Int32.le_toInt z37
        have uz37 := Int32.toInt_lt z37
        exact px_iret (v := z37) S hr rfl hlk hAe hw (Nat.le_of_ble_eq_true rfl) (Nat.le_of_ble_eq_true rfl) (⟨cf, rfl, (show KpE cf cf from hke), (show WrV cf (tf 6).toInt from hwr), (show (cf 33).toInt = (cf 33).toInt from rfl), (show (cf 38).toInt = (cf 38).toInt from rfl), (show (cf 48).toInt = (cf 48).toInt from rfl), (show (cf 47).toInt = (cf 47).toInt from rfl)⟩) d_Mpg_two_273
      · simp only [List.mem_cons, List.not_mem_nil, or_false] at c35
        refine lv_iload_n S.x S.b d_Mpg_two_262 rfl (lv_at hl 3 rfl) ?_
        refine lv_iload_n S.x S.b d_Mpg_two_263 rfl (lv_at hl 4 rfl) ?_
        refine lv_iadd S.x S.b d_Mpg_two_264 ?_
        refine lv_topi (fun z38 ez38 => ?_)
        have tz38 : z38.toInt = (p1.toInt + p2.toInt + 2147483648) % 4294967296 - 2147483648 := by rw [ez38]; exact i_add p1 p2
        have lz38 := Int32.le_toInt z38
        have uz38 := Int32.toInt_lt z38
        try replace tz38 : z38.toInt = p1.toInt + p2.toInt := by omega
        exact px_iret (v := z38) S hr rfl hlk hAe hw (Nat.le_of_ble_eq_true rfl) (Nat.le_of_ble_eq_true rfl) (⟨cf, rfl, (show KpE cf cf from hke), (show WrV cf (tf 6).toInt from hwr), (show (cf 33).toInt = (cf 33).toInt from rfl), (show (cf 38).toInt = (cf 38).toInt from rfl), (show (cf 48).toInt = (cf 48).toInt from rfl), (show (cf 47).toInt = (cf 47).toInt from rfl)⟩) d_Mpg_two_265
      · simp only [List.mem_cons, List.not_mem_nil, or_false] at c35
        refine lv_iload_n S.x S.b d_Mpg_two_266 rfl (lv_at hl 3 rfl) ?_
        refine lv_iload_n S.x S.b d_Mpg_two_267 rfl (lv_at hl 4 rfl) ?_
        refine lv_isub S.x S.b d_Mpg_two_268 ?_
        refine lv_topi (fun z39 ez39 => ?_)
        have tz39 : z39.toInt = (p1.toInt - p2.toInt + 2147483648) % 4294967296 - 2147483648 := by rw [ez39]; exact i_sub p1 p2
        have lz39 := Int32.le_toInt z39
        have uz39 := Int32.toInt_lt z39
        try replace tz39 : z39.toInt = p1.toInt - p2.toInt := by omega
        exact px_iret (v := z39) S hr rfl hlk hAe hw (Nat.le_of_ble_eq_true rfl) (Nat.le_of_ble_eq_true rfl) (⟨cf, rfl, (show KpE cf cf from hke), (show WrV cf (tf 6).toInt from hwr), (show (cf 33).toInt = (cf 33).toInt from rfl), (show (cf 38).toInt = (cf 38).toInt from rfl), (show (cf 48).toInt = (cf 48).toInt from rfl), (show (cf 47).toInt = (cf 47).toInt from rfl)⟩) d_Mpg_two_269
      · simp only [List.mem_cons, List.not_mem_nil, or_false] at c35
        refine lv_iload_n S.x S.b d_Mpg_two_240 rfl (lv_at hl 3 rfl) ?_
        refine lv_iload_n S.x S.b d_Mpg_two_241 rfl (lv_at hl 4 rfl) ?_
        refine lv_icmp_ge (tgt := 249) S.x S.b d_Mpg_two_242 (by decide) (fun c40 => ?_) (fun c40 => ?_)
        · have nc40 : p2.toInt ≤ p1.toInt := (i_le (x := p2) (y := p1)).mp c40
          refine lv_iconst (v := 0) S.x S.b d_Mpg_two_249 (by decide) ?_
          exact px_iret (v := 0) S hr rfl hlk hAe hw (Nat.le_of_ble_eq_true rfl) (Nat.le_of_ble_eq_true rfl) (⟨cf, rfl, (show KpE cf cf from hke), (show WrV cf (tf 6).toInt from hwr), (show (cf 33).toInt = (cf 33).toInt from rfl), (show (cf 38).toInt = (cf 38).toInt from rfl), (show (cf 48).toInt = (cf 48).toInt from rfl), (show (cf 47).toInt = (cf 47).toInt from rfl)⟩) d_Mpg_two_250
        · have nc40 : ¬ p2.toInt ≤ p1.toInt := mt (i_le (x := p2) (y := p1)).mpr c40
          refine lv_iconst (v := 1) S.x S.b d_Mpg_two_245 (by decide) ?_
          refine lv_goto (tgt := 250) S.x S.b d_Mpg_two_246 (by decide) ?_
          exact px_iret (v := 1) S hr rfl hlk hAe hw (Nat.le_of_ble_eq_true rfl) (Nat.le_of_ble_eq_true rfl) (⟨cf, rfl, (show KpE cf cf from hke), (show WrV cf (tf 6).toInt from hwr), (show (cf 33).toInt = (cf 33).toInt from rfl), (show (cf 38).toInt = (cf 38).toInt from rfl), (show (cf 48).toInt = (cf 48).toInt from rfl), (show (cf 47).toInt = (cf 47).toInt from rfl)⟩) d_Mpg_two_250
      · simp only [List.mem_cons, List.not_mem_nil, or_false] at c35
        refine lv_iload_n S.x S.b d_Mpg_two_251 rfl (lv_at hl 3 rfl) ?_
        refine lv_iload_n S.x S.b d_Mpg_two_252 rfl (lv_at hl 4 rfl) ?_
        refine lv_icmp_le (tgt := 260) S.x S.b d_Mpg_two_253 (by decide) (fun c41 => ?_) (fun c41 => ?_)
        · have nc41 : p1.toInt ≤ p2.toInt := (i_le (x := p1) (y := p2)).mp c41
          refine lv_iconst (v := 0) S.x S.b d_Mpg_two_260 (by decide) ?_
          exact px_iret (v := 0) S hr rfl hlk hAe hw (Nat.le_of_ble_eq_true rfl) (Nat.le_of_ble_eq_true rfl) (⟨cf, rfl, (show KpE cf cf from hke), (show WrV cf (tf 6).toInt from hwr), (show (cf 33).toInt = (cf 33).toInt from rfl), (show (cf 38).toInt = (cf 38).toInt from rfl), (show (cf 48).toInt = (cf 48).toInt from rfl), (show (cf 47).toInt = (cf 47).toInt from rfl)⟩) d_Mpg_two_261
        · have nc41 : ¬ p1.toInt ≤ p2.toInt := mt (i_le (x := p1) (y := p2)).mpr c41
          refine lv_iconst (v := 1) S.x S.b d_Mpg_two_256 (by decide) ?_
          refine lv_goto (tgt := 261) S.x S.b d_Mpg_two_257 (by decide) ?_
          exact px_iret (v := 1) S hr rfl hlk hAe hw (Nat.le_of_ble_eq_true rfl) (Nat.le_of_ble_eq_true rfl) (⟨cf, rfl, (show KpE cf cf from hke), (show WrV cf (tf 6).toInt from hwr), (show (cf 33).toInt = (cf 33).toInt from rfl), (show (cf 38).toInt = (cf 38).toInt from rfl), (show (cf 48).toInt = (cf 48).toInt from rfl), (show (cf 47).toInt = (cf 47).toInt from rfl)⟩) d_Mpg_two_261
      · simp only [List.mem_cons, List.not_mem_nil, or_false] at c35
        refine lv_iload_n S.x S.b d_Mpg_two_232 rfl (lv_at hl 3 rfl) ?_
        refine lv_iload_n S.x S.b d_Mpg_two_233 rfl (lv_at hl 4 rfl) ?_
        refine lv_ixor S.x S.b d_Mpg_two_234 ?_
        refine lv_topi (fun z42 ez42 => ?_)
        have lz42 := Int32.le_toInt z42
        have uz42 := Int32.toInt_lt z42
        exact px_iret (v := z42) S hr rfl hlk hAe hw (Nat.le_of_ble_eq_true rfl) (Nat.le_of_ble_eq_true rfl) (⟨cf, rfl, (show KpE cf cf from hke), (show WrV cf (tf 6).toInt from hwr), (show (cf 33).toInt = (cf 33).toInt from rfl), (show (cf 38).toInt = (cf 38).toInt from rfl), (show (cf 48).toInt = (cf 48).toInt from rfl), (show (cf 47).toInt = (cf 47).toInt from rfl)⟩) d_Mpg_two_235
      · simp only [List.mem_cons, List.not_mem_nil, or_false] at c35
        refine lv_iload_n S.x S.b d_Mpg_two_228 rfl (lv_at hl 3 rfl) ?_
        refine lv_iload_n S.x S.b d_Mpg_two_229 rfl (lv_at hl 4 rfl) ?_
        refine lv_ior S.x S.b d_Mpg_two_230 ?_
        refine lv_topi (fun z43 ez43 => ?_)
        have lz43 := Int32.le_toInt z43
        have uz43 := Int32.toInt_lt z43
        exact px_iret (v := z43) S hr rfl hlk hAe hw (Nat.le_of_ble_eq_true rfl) (Nat.le_of_ble_eq_true rfl) (⟨cf, rfl, (show KpE cf cf from hke), (show WrV cf (tf 6).toInt from hwr), (show (cf 33).toInt = (cf 33).toInt from rfl), (show (cf 38).toInt = (cf 38).toInt from rfl), (show (cf 48).toInt = (cf 48).toInt from rfl), (show (cf 47).toInt = (cf 47).toInt from rfl)⟩) d_Mpg_two_231
  · have nc8 : v6.toInt = (2 : Int) := (i_eq (x := v6) (y := 2)).mp c8
    refine lv_aload S.x S.b d_Mpg_two_22 (lv_at hl 0 rfl) ?_
    obtain ⟨sk44, hRsk44, st45, sb46, hSsk44⟩ := oP_lit hP (k := 71) (tx := "==") (n := 2) (List.mem_of_getElem? (i := 27) rfl)
    refine va_ldcS S.x S.b S.own hRsk44 d_Mpg_two_24 ?_
    refine px_calli (pr := [wdP cs h r g tf ta pf na ma wa cf ca ef ea xf xa]) (px_runV (As := [.ref sk44]) (rest := []) S (c_sg_equals l D cs sk2 st3 (mlen z1.toNatClampNeg) sb4 sk44 st45 2 sb46   (show (mlen z1.toNatClampNeg) ≤ 1000000 from by first | exact oz_f8a16524ad e7 nc8 | omega) (show 2 ≤ 1000000 from by first | decide | omega) _) hT (pr := [wdP cs h r g tf ta pf na ma wa cf ca ef ea xf xa]) (pcs := []) hw (oX_call (P := (fun A U H => (oZ A U H) ∧ (oS A sk2 st3 (mlen z1.toNatClampNeg) sb4 U H) ∧ (oS A sk44 st45 2 sb46 U H))) (pr := [wdP cs h r g tf ta pf na ma wa cf ca ef ea xf xa]) (oG_and oG_Z (oG_and oG_S oG_S)) hw hA ⟨hZ, hSsk2, hSsk44⟩) (oS_recv hw hSsk2) m11_225 m11_222 m11_223 m11_224 m1_3 q_String_equals ⟨Nat.le_of_ble_eq_true rfl, Nat.le_of_ble_eq_true rfl⟩ hl.1 rfl (Nat.le_of_ble_eq_true rfl) d_Mpg_two_26 ⟨Nat.le_of_ble_eq_true rfl, Nat.le_of_ble_eq_true rfl⟩) hw hA (fun v48 p47 H locs hp47 hw => ?_)
    obtain ⟨rfl, e49⟩ := hp47
    have e49 := z_rng e49
    have hw : pw D A s.heap H locs [wdP cs h r g tf ta pf na ma wa cf ca ef ea xf xa] := hw
    have lv48 := Int32.le_toInt v48
    have uv48 := Int32.toInt_lt v48
    refine lv_if_eq (tgt := 45) S.x S.b d_Mpg_two_29 (by decide) (fun c50 => ?_) (fun c50 => ?_)
    · have nc50 : v48.toInt = (0 : Int) := (i_eq (x := v48) (y := 0)).mp c50
      refine lv_aload S.x S.b d_Mpg_two_45 (lv_at hl 0 rfl) ?_
      obtain ⟨sk51, hRsk51, st52, sb53, hSsk51⟩ := oP_lit hP (k := 73) (tx := "!=") (n := 2) (List.mem_of_getElem? (i := 28) rfl)
      refine va_ldcS S.x S.b S.own hRsk51 d_Mpg_two_47 ?_
      refine px_calli (pr := [wdP cs h r g tf ta pf na ma wa cf ca ef ea xf xa]) (px_runV (As := [.ref sk51]) (rest := []) S (c_sg_equals l D cs sk2 st3 (mlen z1.toNatClampNeg) sb4 sk51 st52 2 sb53   (show (mlen z1.toNatClampNeg) ≤ 1000000 from by first | exact oz_f8a16524ad e7 nc8 | omega) (show 2 ≤ 1000000 from by first | decide | omega) _) hT (pr := [wdP cs h r g tf ta pf na ma wa cf ca ef ea xf xa]) (pcs := []) hw (oX_call (P := (fun A U H => (oZ A U H) ∧ (oS A sk2 st3 (mlen z1.toNatClampNeg) sb4 U H) ∧ (oS A sk51 st52 2 sb53 U H))) (pr := [wdP cs h r g tf ta pf na ma wa cf ca ef ea xf xa]) (oG_and oG_Z (oG_and oG_S oG_S)) hw hA ⟨hZ, hSsk2, hSsk51⟩) (oS_recv hw hSsk2) m11_225 m11_222 m11_223 m11_224 m1_3 q_String_equals ⟨Nat.le_of_ble_eq_true rfl, Nat.le_of_ble_eq_true rfl⟩ hl.1 rfl (Nat.le_of_ble_eq_true rfl) d_Mpg_two_49 ⟨Nat.le_of_ble_eq_true rfl, Nat.le_of_ble_eq_true rfl⟩) hw hA (fun v55 p54 H locs hp54 hw => ?_)
      obtain ⟨rfl, e56⟩ := hp54
      have e56 := z_rng e56
      have hw : pw D A s.heap H locs [wdP cs h r g tf ta pf na ma wa cf ca ef ea xf xa] := hw
      have lv55 := Int32.le_toInt v55
      have uv55 := Int32.toInt_lt v55
      refine lv_if_eq (tgt := 68) S.x S.b d_Mpg_two_52 (by decide) (fun c57 => ?_) (fun c57 => ?_)
      · have nc57 : v55.toInt = (0 : Int) := (i_eq (x := v55) (y := 0)).mp c57
        refine lv_aload S.x S.b d_Mpg_two_68 (lv_at hl 0 rfl) ?_
        obtain ⟨sk58, hRsk58, st59, sb60, hSsk58⟩ := oP_lit hP (k := 75) (tx := "<=") (n := 2) (List.mem_of_getElem? (i := 29) rfl)
        refine va_ldcS S.x S.b S.own hRsk58 d_Mpg_two_70 ?_
        refine px_calli (pr := [wdP cs h r g tf ta pf na ma wa cf ca ef ea xf xa]) (px_runV (As := [.ref sk58]) (rest := []) S (c_sg_equals l D cs sk2 st3 (mlen z1.toNatClampNeg) sb4 sk58 st59 2 sb60   (show (mlen z1.toNatClampNeg) ≤ 1000000 from by first | exact oz_f8a16524ad e7 nc8 | omega) (show 2 ≤ 1000000 from by first | decide | omega) _) hT (pr := [wdP cs h r g tf ta pf na ma wa cf ca ef ea xf xa]) (pcs := []) hw (oX_call (P := (fun A U H => (oZ A U H) ∧ (oS A sk2 st3 (mlen z1.toNatClampNeg) sb4 U H) ∧ (oS A sk58 st59 2 sb60 U H))) (pr := [wdP cs h r g tf ta pf na ma wa cf ca ef ea xf xa]) (oG_and oG_Z (oG_and oG_S oG_S)) hw hA ⟨hZ, hSsk2, hSsk58⟩) (oS_recv hw hSsk2) m11_225 m11_222 m11_223 m11_224 m1_3 q_String_equals ⟨Nat.le_of_ble_eq_true rfl, Nat.le_of_ble_eq_true rfl⟩ hl.1 rfl (Nat.le_of_ble_eq_true rfl) d_Mpg_two_72 ⟨Nat.le_of_ble_eq_true rfl, Nat.le_of_ble_eq_true rfl⟩) hw hA (fun v62 p61 H locs hp61 hw => ?_)
        obtain ⟨rfl, e63⟩ := hp61
        have e63 := z_rng e63
        have hw : pw D A s.heap H locs [wdP cs h r g tf ta pf na ma wa cf ca ef ea xf xa] := hw
        have lv62 := Int32.le_toInt v62
        have uv62 := Int32.toInt_lt v62
        refine lv_if_eq (tgt := 91) S.x S.b d_Mpg_two_75 (by decide) (fun c64 => ?_) (fun c64 => ?_)
        · have nc64 : v62.toInt = (0 : Int) := (i_eq (x := v62) (y := 0)).mp c64
          refine lv_iload_n S.x S.b d_Mpg_two_91 rfl (lv_at hl 3 rfl) ?_
          refine lv_iload_n S.x S.b d_Mpg_two_92 rfl (lv_at hl 4 rfl) ?_
          refine lv_icmp_lt (tgt := 100) S.x S.b d_Mpg_two_93 (by decide) (fun c65 => ?_) (fun c65 => ?_)
          · have nc65 : p1.toInt < p2.toInt := (i_lt (x := p1) (y := p2)).mp c65
            refine lv_iconst (v := 0) S.x S.b d_Mpg_two_100 (by decide) ?_
            refine lv_istore (lv' := [(5, .int 0), (4, .ref sk2), (0, .ref h), (1, .int p0), (2, .int p1), (3, .int p2)]) S.x S.b d_Mpg_two_101 hl (by decide) rfl (fun ls hl => ?_)
            refine lv_aload S.x S.b d_Mpg_two_103 (lv_at hl 1 rfl) ?_
            obtain ⟨sk66, hRsk66, st67, sb68, hSsk66⟩ := oP_lit hP (k := 79) (tx := "<<") (n := 2) (List.mem_of_getElem? (i := 31) rfl)
            refine va_ldcS S.x S.b S.own hRsk66 d_Mpg_two_105 ?_
            refine px_calli (pr := [wdP cs h r g tf ta pf na ma wa cf ca ef ea xf xa]) (px_runV (As := [.ref sk66]) (rest := []) S (c_sg_equals l D cs sk2 st3 (mlen z1.toNatClampNeg) sb4 sk66 st67 2 sb68   (show (mlen z1.toNatClampNeg) ≤ 1000000 from by first | exact oz_f8a16524ad e7 nc8 | omega) (show 2 ≤ 1000000 from by first | decide | omega) _) hT (pr := [wdP cs h r g tf ta pf na ma wa cf ca ef ea xf xa]) (pcs := []) hw (oX_call (P := (fun A U H => (oZ A U H) ∧ (oS A sk2 st3 (mlen z1.toNatClampNeg) sb4 U H) ∧ (oS A sk66 st67 2 sb68 U H))) (pr := [wdP cs h r g tf ta pf na ma wa cf ca ef ea xf xa]) (oG_and oG_Z (oG_and oG_S oG_S)) hw hA ⟨hZ, hSsk2, hSsk66⟩) (oS_recv hw hSsk2) m11_225 m11_222 m11_223 m11_224 m1_3 q_String_equals ⟨Nat.le_of_ble_eq_true rfl, Nat.le_of_ble_eq_true rfl⟩ hl.1 rfl (Nat.le_of_ble_eq_true rfl) d_Mpg_two_107 ⟨Nat.le_of_ble_eq_true rfl, Nat.le_of_ble_eq_true rfl⟩) hw hA (fun v70 p69 H locs hp69 hw => ?_)
            obtain ⟨rfl, e71⟩ := hp69
            have e71 := z_rng e71
            have hw : pw D A s.heap H locs [wdP cs h r g tf ta pf na ma wa cf ca ef ea xf xa] := hw
            have lv70 := Int32.le_toInt v70
            have uv70 := Int32.toInt_lt v70
            refine lv_if_eq (tgt := 119) S.x S.b d_Mpg_two_110 (by decide) (fun c72 => ?_) (fun c72 => ?_)
            · have nc72 : v70.toInt = (0 : Int) := (i_eq (x := v70) (y := 0)).mp c72
              refine lv_aload S.x S.b d_Mpg_two_119 (lv_at hl 1 rfl) ?_
              obtain ⟨sk73, hRsk73, st74, sb75, hSsk73⟩ := oP_lit hP (k := 81) (tx := ">>") (n := 2) (List.mem_of_getElem? (i := 32) rfl)
              refine va_ldcS S.x S.b S.own hRsk73 d_Mpg_two_121 ?_
              refine px_calli (pr := [wdP cs h r g tf ta pf na ma wa cf ca ef ea xf xa]) (px_runV (As := [.ref sk73]) (rest := []) S (c_sg_equals l D cs sk2 st3 (mlen z1.toNatClampNeg) sb4 sk73 st74 2 sb75   (show (mlen z1.toNatClampNeg) ≤ 1000000 from by first | exact oz_f8a16524ad e7 nc8 | omega) (show 2 ≤ 1000000 from by first | decide | omega) _) hT (pr := [wdP cs h r g tf ta pf na ma wa cf ca ef ea xf xa]) (pcs := []) hw (oX_call (P := (fun A U H => (oZ A U H) ∧ (oS A sk2 st3 (mlen z1.toNatClampNeg) sb4 U H) ∧ (oS A sk73 st74 2 sb75 U H))) (pr := [wdP cs h r g tf ta pf na ma wa cf ca ef ea xf xa]) (oG_and oG_Z (oG_and oG_S oG_S)) hw hA ⟨hZ, hSsk2, hSsk73⟩) (oS_recv hw hSsk2) m11_225 m11_222 m11_223 m11_224 m1_3 q_String_equals ⟨Nat.le_of_ble_eq_true rfl, Nat.le_of_ble_eq_true rfl⟩ hl.1 rfl (Nat.le_of_ble_eq_true rfl) d_Mpg_two_123 ⟨Nat.le_of_ble_eq_true rfl, Nat.le_of_ble_eq_true rfl⟩) hw hA (fun v77 p76 H locs hp76 hw => ?_)
              obtain ⟨rfl, e78⟩ := hp76
              have e78 := z_rng e78
              have hw : pw D A s.heap H locs [wdP cs h r g tf ta pf na ma wa cf ca ef ea xf xa] := hw
              have lv77 := Int32.le_toInt v77
              have uv77 := Int32.toInt_lt v77
              refine lv_if_eq (tgt := 135) S.x S.b d_Mpg_two_126 (by decide) (fun c79 => ?_) (fun c79 => ?_)
              · have nc79 : v77.toInt = (0 : Int) := (i_eq (x := v77) (y := 0)).mp c79
                refine lv_iload S.x S.b d_Mpg_two_135 (lv_at hl 0 rfl) ?_
                refine lv_if_eq (tgt := 144) S.x S.b d_Mpg_two_137 (by decide) (fun c80 => ?_) (fun c80 => ?_)
                ·
                  refine lv_iconst (v := 0) S.x S.b d_Mpg_two_144 (by decide) ?_
                  exact px_iret (v := 0) S hr rfl hlk hAe hw (Nat.le_of_ble_eq_true rfl) (Nat.le_of_ble_eq_true rfl) (⟨cf, rfl, (show KpE cf cf from hke), (show WrV cf (tf 6).toInt from hwr), (show (cf 33).toInt = (cf 33).toInt from rfl), (show (cf 38).toInt = (cf 38).toInt from rfl), (show (cf 48).toInt = (cf 48).toInt from rfl), (show (cf 47).toInt = (cf 47).toInt from rfl)⟩) d_Mpg_two_145
                · exact absurd c80 (by decide)
              · have nc79 : ¬ v77.toInt = (0 : Int) := mt (i_eq (x := v77) (y := 0)).mpr c79
                refine lv_iload_n S.x S.b d_Mpg_two_129 rfl (lv_at hl 4 rfl) ?_
                refine lv_iload_n S.x S.b d_Mpg_two_130 rfl (lv_at hl 5 rfl) ?_
                refine lv_ishr S.x S.b d_Mpg_two_131 ?_
                refine lv_topi (fun z81 ez81 => ?_)
                have lz81 := Int32.le_toInt z81
                have uz81 := Int32.toInt_lt z81
                refine lv_goto (tgt := 145) S.x S.b d_Mpg_two_132 (by decide) ?_
                exact px_iret (v := z81) S hr rfl hlk hAe hw (Nat.le_of_ble_eq_true rfl) (Nat.le_of_ble_eq_true rfl) (⟨cf, rfl, (show KpE cf cf from hke), (show WrV cf (tf 6).toInt from hwr), (show (cf 33).toInt = (cf 33).toInt from rfl), (show (cf 38).toInt = (cf 38).toInt from rfl), (show (cf 48).toInt = (cf 48).toInt from rfl), (show (cf 47).toInt = (cf 47).toInt from rfl)⟩) d_Mpg_two_145
            · have nc72 : ¬ v70.toInt = (0 : Int) := mt (i_eq (x := v70) (y := 0)).mpr c72
              refine lv_iload_n S.x S.b d_Mpg_two_113 rfl (lv_at hl 4 rfl) ?_
              refine lv_iload_n S.x S.b d_Mpg_two_114 rfl (lv_at hl 5 rfl) ?_
              refine lv_ishl S.x S.b d_Mpg_two_115 ?_
              refine lv_topi (fun z82 ez82 => ?_)
              have lz82 := Int32.le_toInt z82
              have uz82 := Int32.toInt_lt z82
              refine lv_goto (tgt := 145) S.x S.b d_Mpg_two_116 (by decide) ?_
              exact px_iret (v := z82) S hr rfl hlk hAe hw (Nat.le_of_ble_eq_true rfl) (Nat.le_of_ble_eq_true rfl) (⟨cf, rfl, (show KpE cf cf from hke), (show WrV cf (tf 6).toInt from hwr), (show (cf 33).toInt = (cf 33).toInt from rfl), (show (cf 38).toInt = (cf 38).toInt from rfl), (show (cf 48).toInt = (cf 48).toInt from rfl), (show (cf 47).toInt = (cf 47).toInt from rfl)⟩) d_Mpg_two_145
          · have nc65 : ¬ p1.toInt < p2.toInt := mt (i_lt (x := p1) (y := p2)).mpr c65
            refine lv_iconst (v := 1) S.x S.b d_Mpg_two_96 (by decide) ?_
            refine lv_goto (tgt := 101) S.x S.b d_Mpg_two_97 (by decide) ?_
            refine lv_istore (lv' := [(5, .int 1), (4, .ref sk2), (0, .ref h), (1, .int p0), (2, .int p1), (3, .int p2)]) S.x S.b d_Mpg_two_101 hl (by decide) rfl (fun ls hl => ?_)
            refine lv_aload S.x S.b d_Mpg_two_103 (lv_at hl 1 rfl) ?_
            obtain ⟨sk83, hRsk83, st84, sb85, hSsk83⟩ := oP_lit hP (k := 79) (tx := "<<") (n := 2) (List.mem_of_getElem? (i := 31) rfl)
            refine va_ldcS S.x S.b S.own hRsk83 d_Mpg_two_105 ?_
            refine px_calli (pr := [wdP cs h r g tf ta pf na ma wa cf ca ef ea xf xa]) (px_runV (As := [.ref sk83]) (rest := []) S (c_sg_equals l D cs sk2 st3 (mlen z1.toNatClampNeg) sb4 sk83 st84 2 sb85   (show (mlen z1.toNatClampNeg) ≤ 1000000 from by first | exact oz_f8a16524ad e7 nc8 | omega) (show 2 ≤ 1000000 from by first | decide | omega) _) hT (pr := [wdP cs h r g tf ta pf na ma wa cf ca ef ea xf xa]) (pcs := []) hw (oX_call (P := (fun A U H => (oZ A U H) ∧ (oS A sk2 st3 (mlen z1.toNatClampNeg) sb4 U H) ∧ (oS A sk83 st84 2 sb85 U H))) (pr := [wdP cs h r g tf ta pf na ma wa cf ca ef ea xf xa]) (oG_and oG_Z (oG_and oG_S oG_S)) hw hA ⟨hZ, hSsk2, hSsk83⟩) (oS_recv hw hSsk2) m11_225 m11_222 m11_223 m11_224 m1_3 q_String_equals ⟨Nat.le_of_ble_eq_true rfl, Nat.le_of_ble_eq_true rfl⟩ hl.1 rfl (Nat.le_of_ble_eq_true rfl) d_Mpg_two_107 ⟨Nat.le_of_ble_eq_true rfl, Nat.le_of_ble_eq_true rfl⟩) hw hA (fun v87 p86 H locs hp86 hw => ?_)
            obtain ⟨rfl, e88⟩ := hp86
            have e88 := z_rng e88
            have hw : pw D A s.heap H locs [wdP cs h r g tf ta pf na ma wa cf ca ef ea xf xa] := hw
            have lv87 := Int32.le_toInt v87
            have uv87 := Int32.toInt_lt v87
            refine lv_if_eq (tgt := 119) S.x S.b d_Mpg_two_110 (by decide) (fun c89 => ?_) (fun c89 => ?_)
            · have nc89 : v87.toInt = (0 : Int) := (i_eq (x := v87) (y := 0)).mp c89
              refine lv_aload S.x S.b d_Mpg_two_119 (lv_at hl 1 rfl) ?_
              obtain ⟨sk90, hRsk90, st91, sb92, hSsk90⟩ := oP_lit hP (k := 81) (tx := ">>") (n := 2) (List.mem_of_getElem? (i := 32) rfl)
              refine va_ldcS S.x S.b S.own hRsk90 d_Mpg_two_121 ?_
              refine px_calli (pr := [wdP cs h r g tf ta pf na ma wa cf ca ef ea xf xa]) (px_runV (As := [.ref sk90]) (rest := []) S (c_sg_equals l D cs sk2 st3 (mlen z1.toNatClampNeg) sb4 sk90 st91 2 sb92   (show (mlen z1.toNatClampNeg) ≤ 1000000 from by first | exact oz_f8a16524ad e7 nc8 | omega) (show 2 ≤ 1000000 from by first | decide | omega) _) hT (pr := [wdP cs h r g tf ta pf na ma wa cf ca ef ea xf xa]) (pcs := []) hw (oX_call (P := (fun A U H => (oZ A U H) ∧ (oS A sk2 st3 (mlen z1.toNatClampNeg) sb4 U H) ∧ (oS A sk90 st91 2 sb92 U H))) (pr := [wdP cs h r g tf ta pf na ma wa cf ca ef ea xf xa]) (oG_and oG_Z (oG_and oG_S oG_S)) hw hA ⟨hZ, hSsk2, hSsk90⟩) (oS_recv hw hSsk2) m11_225 m11_222 m11_223 m11_224 m1_3 q_String_equals ⟨Nat.le_of_ble_eq_true rfl, Nat.le_of_ble_eq_true rfl⟩ hl.1 rfl (Nat.le_of_ble_eq_true rfl) d_Mpg_two_123 ⟨Nat.le_of_ble_eq_true rfl, Nat.le_of_ble_eq_true rfl⟩) hw hA (fun v94 p93 H locs hp93 hw => ?_)
              obtain ⟨rfl, e95⟩ := hp93
              have e95 := z_rng e95
              have hw : pw D A s.heap H locs [wdP cs h r g tf ta pf na ma wa cf ca ef ea xf xa] := hw
              have lv94 := Int32.le_toInt v94
              have uv94 := Int32.toInt_lt v94
              refine lv_if_eq (tgt := 135) S.x S.b d_Mpg_two_126 (by decide) (fun c96 => ?_) (fun c96 => ?_)
              · have nc96 : v94.toInt = (0 : Int) := (i_eq (x := v94) (y := 0)).mp c96
                refine lv_iload S.x S.b d_Mpg_two_135 (lv_at hl 0 rfl) ?_
                refine lv_if_eq (tgt := 144) S.x S.b d_Mpg_two_137 (by decide) (fun c97 => ?_) (fun c97 => ?_)
                · exact absurd c97 (by decide)
                ·
                  refine lv_iconst (v := 1) S.x S.b d_Mpg_two_140 (by decide) ?_
                  refine lv_goto (tgt := 145) S.x S.b d_Mpg_two_141 (by decide) ?_
                  exact px_iret (v := 1) S hr rfl hlk hAe hw (Nat.le_of_ble_eq_true rfl) (Nat.le_of_ble_eq_true rfl) (⟨cf, rfl, (show KpE cf cf from hke), (show WrV cf (tf 6).toInt from hwr), (show (cf 33).toInt = (cf 33).toInt from rfl), (show (cf 38).toInt = (cf 38).toInt from rfl), (show (cf 48).toInt = (cf 48).toInt from rfl), (show (cf 47).toInt = (cf 47).toInt from rfl)⟩) d_Mpg_two_145
              · have nc96 : ¬ v94.toInt = (0 : Int) := mt (i_eq (x := v94) (y := 0)).mpr c96
                refine lv_iload_n S.x S.b d_Mpg_two_129 rfl (lv_at hl 4 rfl) ?_
                refine lv_iload_n S.x S.b d_Mpg_two_130 rfl (lv_at hl 5 rfl) ?_
                refine lv_ishr S.x S.b d_Mpg_two_131 ?_
                refine lv_topi (fun z98 ez98 => ?_)
                have lz98 := Int32.le_toInt z98
                have uz98 := Int32.toInt_lt z98
                refine lv_goto (tgt := 145) S.x S.b d_Mpg_two_132 (by decide) ?_
                exact px_iret (v := z98) S hr rfl hlk hAe hw (Nat.le_of_ble_eq_true rfl) (Nat.le_of_ble_eq_true rfl) (⟨cf, rfl, (show KpE cf cf from hke), (show WrV cf (tf 6).toInt from hwr), (show (cf 33).toInt = (cf 33).toInt from rfl), (show (cf 38).toInt = (cf 38).toInt from rfl), (show (cf 48).toInt = (cf 48).toInt from rfl), (show (cf 47).toInt = (cf 47).toInt from rfl)⟩) d_Mpg_two_145
            · have nc89 : ¬ v87.toInt = (0 : Int) := mt (i_eq (x := v87) (y := 0)).mpr c89
              refine lv_iload_n S.x S.b d_Mpg_two_113 rfl (lv_at hl 4 rfl) ?_
              refine lv_iload_n S.x S.b d_Mpg_two_114 rfl (lv_at hl 5 rfl) ?_
              refine lv_ishl S.x S.b d_Mpg_two_115 ?_
              refine lv_topi (fun z99 ez99 => ?_)
              have lz99 := Int32.le_toInt z99
              have uz99 := Int32.toInt_lt z99
              refine lv_goto (tgt := 145) S.x S.b d_Mpg_two_116 (by decide) ?_
              exact px_iret (v := z99) S hr rfl hlk hAe hw (Nat.le_of_ble_eq_true rfl) (Nat.le_of_ble_eq_true rfl) (⟨cf, rfl, (show KpE cf cf from hke), (show WrV cf (tf 6).toInt from hwr), (show (cf 33).toInt = (cf 33).toInt from rfl), (show (cf 38).toInt = (cf 38).toInt from rfl), (show (cf 48).toInt = (cf 48).toInt from rfl), (show (cf 47).toInt = (cf 47).toInt from rfl)⟩) d_Mpg_two_145
        · have nc64 : ¬ v62.toInt = (0 : Int) := mt (i_eq (x := v62) (y := 0)).mpr c64
          refine lv_iload_n S.x S.b d_Mpg_two_78 rfl (lv_at hl 3 rfl) ?_
          refine lv_iload_n S.x S.b d_Mpg_two_79 rfl (lv_at hl 4 rfl) ?_
          refine lv_icmp_gt (tgt := 87) S.x S.b d_Mpg_two_80 (by decide) (fun c100 => ?_) (fun c100 => ?_)
          · have nc100 : p2.toInt < p1.toInt := (i_lt (x := p2) (y := p1)).mp c100
            refine lv_iconst (v := 0) S.x S.b d_Mpg_two_87 (by decide) ?_
            refine lv_goto (tgt := 101) S.x S.b d_Mpg_two_88 (by decide) ?_
            refine lv_istore (lv' := [(5, .int 0), (4, .ref sk2), (0, .ref h), (1, .int p0), (2, .int p1), (3, .int p2)]) S.x S.b d_Mpg_two_101 hl (by decide) rfl (fun ls hl => ?_)
            refine lv_aload S.x S.b d_Mpg_two_103 (lv_at hl 1 rfl) ?_
            obtain ⟨sk101, hRsk101, st102, sb103, hSsk101⟩ := oP_lit hP (k := 79) (tx := "<<") (n := 2) (List.mem_of_getElem? (i := 31) rfl)
            refine va_ldcS S.x S.b S.own hRsk101 d_Mpg_two_105 ?_
            refine px_calli (pr := [wdP cs h r g tf ta pf na ma wa cf ca ef ea xf xa]) (px_runV (As := [.ref sk101]) (rest := []) S (c_sg_equals l D cs sk2 st3 (mlen z1.toNatClampNeg) sb4 sk101 st102 2 sb103   (show (mlen z1.toNatClampNeg) ≤ 1000000 from by first | exact oz_f8a16524ad e7 nc8 | omega) (show 2 ≤ 1000000 from by first | decide | omega) _) hT (pr := [wdP cs h r g tf ta pf na ma wa cf ca ef ea xf xa]) (pcs := []) hw (oX_call (P := (fun A U H => (oZ A U H) ∧ (oS A sk2 st3 (mlen z1.toNatClampNeg) sb4 U H) ∧ (oS A sk101 st102 2 sb103 U H))) (pr := [wdP cs h r g tf ta pf na ma wa cf ca ef ea xf xa]) (oG_and oG_Z (oG_and oG_S oG_S)) hw hA ⟨hZ, hSsk2, hSsk101⟩) (oS_recv hw hSsk2) m11_225 m11_222 m11_223 m11_224 m1_3 q_String_equals ⟨Nat.le_of_ble_eq_true rfl, Nat.le_of_ble_eq_true rfl⟩ hl.1 rfl (Nat.le_of_ble_eq_true rfl) d_Mpg_two_107 ⟨Nat.le_of_ble_eq_true rfl, Nat.le_of_ble_eq_true rfl⟩) hw hA (fun v105 p104 H locs hp104 hw => ?_)
            obtain ⟨rfl, e106⟩ := hp104
            have e106 := z_rng e106
            have hw : pw D A s.heap H locs [wdP cs h r g tf ta pf na ma wa cf ca ef ea xf xa] := hw
            have lv105 := Int32.le_toInt v105
            have uv105 := Int32.toInt_lt v105
            refine lv_if_eq (tgt := 119) S.x S.b d_Mpg_two_110 (by decide) (fun c107 => ?_) (fun c107 => ?_)
            · have nc107 : v105.toInt = (0 : Int) := (i_eq (x := v105) (y := 0)).mp c107
              refine lv_aload S.x S.b d_Mpg_two_119 (lv_at hl 1 rfl) ?_
              obtain ⟨sk108, hRsk108, st109, sb110, hSsk108⟩ := oP_lit hP (k := 81) (tx := ">>") (n := 2) (List.mem_of_getElem? (i := 32) rfl)
              refine va_ldcS S.x S.b S.own hRsk108 d_Mpg_two_121 ?_
              refine px_calli (pr := [wdP cs h r g tf ta pf na ma wa cf ca ef ea xf xa]) (px_runV (As := [.ref sk108]) (rest := []) S (c_sg_equals l D cs sk2 st3 (mlen z1.toNatClampNeg) sb4 sk108 st109 2 sb110   (show (mlen z1.toNatClampNeg) ≤ 1000000 from by first | exact oz_f8a16524ad e7 nc8 | omega) (show 2 ≤ 1000000 from by first | decide | omega) _) hT (pr := [wdP cs h r g tf ta pf na ma wa cf ca ef ea xf xa]) (pcs := []) hw (oX_call (P := (fun A U H => (oZ A U H) ∧ (oS A sk2 st3 (mlen z1.toNatClampNeg) sb4 U H) ∧ (oS A sk108 st109 2 sb110 U H))) (pr := [wdP cs h r g tf ta pf na ma wa cf ca ef ea xf xa]) (oG_and oG_Z (oG_and oG_S oG_S)) hw hA ⟨hZ, hSsk2, hSsk108⟩) (oS_recv hw hSsk2) m11_225 m11_222 m11_223 m11_224 m1_3 q_String_equals ⟨Nat.le_of_ble_eq_true rfl, Nat.le_of_ble_eq_true rfl⟩ hl.1 rfl (Nat.le_of_ble_eq_true rfl) d_Mpg_two_123 ⟨Nat.le_of_ble_eq_true rfl, Nat.le_of_ble_eq_true rfl⟩) hw hA (fun v112 p111 H locs hp111 hw => ?_)
              obtain ⟨rfl, e113⟩ := hp111
              have e113 := z_rng e113
              have hw : pw D A s.heap H locs [wdP cs h r g tf ta pf na ma wa cf ca ef ea xf xa] := hw
              have lv112 := Int32.le_toInt v112
              have uv112 := Int32.toInt_lt v112
              refine lv_if_eq (tgt := 135) S.x S.b d_Mpg_two_126 (by decide) (fun c114 => ?_) (fun c114 => ?_)
              · have nc114 : v112.toInt = (0 : Int) := (i_eq (x := v112) (y := 0)).mp c114
                refine lv_iload S.x S.b d_Mpg_two_135 (lv_at hl 0 rfl) ?_
                refine lv_if_eq (tgt := 144) S.x S.b d_Mpg_two_137 (by decide) (fun c115 => ?_) (fun c115 => ?_)
                ·
                  refine lv_iconst (v := 0) S.x S.b d_Mpg_two_144 (by decide) ?_
                  exact px_iret (v := 0) S hr rfl hlk hAe hw (Nat.le_of_ble_eq_true rfl) (Nat.le_of_ble_eq_true rfl) (⟨cf, rfl, (show KpE cf cf from hke), (show WrV cf (tf 6).toInt from hwr), (show (cf 33).toInt = (cf 33).toInt from rfl), (show (cf 38).toInt = (cf 38).toInt from rfl), (show (cf 48).toInt = (cf 48).toInt from rfl), (show (cf 47).toInt = (cf 47).toInt from rfl)⟩) d_Mpg_two_145
                · exact absurd c115 (by decide)
              · have nc114 : ¬ v112.toInt = (0 : Int) := mt (i_eq (x := v112) (y := 0)).mpr c114
                refine lv_iload_n S.x S.b d_Mpg_two_129 rfl (lv_at hl 4 rfl) ?_
                refine lv_iload_n S.x S.b d_Mpg_two_130 rfl (lv_at hl 5 rfl) ?_
                refine lv_ishr S.x S.b d_Mpg_two_131 ?_
                refine lv_topi (fun z116 ez116 => ?_)
                have lz116 := Int32.le_toInt z116
                have uz116 := Int32.toInt_lt z116
                refine lv_goto (tgt := 145) S.x S.b d_Mpg_two_132 (by decide) ?_
                exact px_iret (v := z116) S hr rfl hlk hAe hw (Nat.le_of_ble_eq_true rfl) (Nat.le_of_ble_eq_true rfl) (⟨cf, rfl, (show KpE cf cf from hke), (show WrV cf (tf 6).toInt from hwr), (show (cf 33).toInt = (cf 33).toInt from rfl), (show (cf 38).toInt = (cf 38).toInt from rfl), (show (cf 48).toInt = (cf 48).toInt from rfl), (show (cf 47).toInt = (cf 47).toInt from rfl)⟩) d_Mpg_two_145
            · have nc107 : ¬ v105.toInt = (0 : Int) := mt (i_eq (x := v105) (y := 0)).mpr c107
              refine lv_iload_n S.x S.b d_Mpg_two_113 rfl (lv_at hl 4 rfl) ?_
              refine lv_iload_n S.x S.b d_Mpg_two_114 rfl (lv_at hl 5 rfl) ?_
              refine lv_ishl S.x S.b d_Mpg_two_115 ?_
              refine lv_topi (fun z117 ez117 => ?_)
              have lz117 := Int32.le_toInt z117
              have uz117 := Int32.toInt_lt z117
              refine lv_goto (tgt := 145) S.x S.b d_Mpg_two_116 (by decide) ?_
              exact px_iret (v := z117) S hr rfl hlk hAe hw (Nat.le_of_ble_eq_true rfl) (Nat.le_of_ble_eq_true rfl) (⟨cf, rfl, (show KpE cf cf from hke), (show WrV cf (tf 6).toInt from hwr), (show (cf 33).toInt = (cf 33).toInt from rfl), (show (cf 38).toInt = (cf 38).toInt from rfl), (show (cf 48).toInt = (cf 48).toInt from rfl), (show (cf 47).toInt = (cf 47).toInt from rfl)⟩) d_Mpg_two_145
          · have nc100 : ¬ p2.toInt < p1.toInt := mt (i_lt (x := p2) (y := p1)).mpr c100
            refine lv_iconst (v := 1) S.x S.b d_Mpg_two_83 (by decide) ?_
            refine lv_goto (tgt := 101) S.x S.b d_Mpg_two_84 (by decide) ?_
            refine lv_istore (lv' := [(5, .int 1), (4, .ref sk2), (0, .ref h), (1, .int p0), (2, .int p1), (3, .int p2)]) S.x S.b d_Mpg_two_101 hl (by decide) rfl (fun ls hl => ?_)
            refine lv_aload S.x S.b d_Mpg_two_103 (lv_at hl 1 rfl) ?_
            obtain ⟨sk118, hRsk118, st119, sb120, hSsk118⟩ := oP_lit hP (k := 79) (tx := "<<") (n := 2) (List.mem_of_getElem? (i := 31) rfl)
            refine va_ldcS S.x S.b S.own hRsk118 d_Mpg_two_105 ?_
            refine px_calli (pr := [wdP cs h r g tf ta pf na ma wa cf ca ef ea xf xa]) (px_runV (As := [.ref sk118]) (rest := []) S (c_sg_equals l D cs sk2 st3 (mlen z1.toNatClampNeg) sb4 sk118 st119 2 sb120   (show (mlen z1.toNatClampNeg) ≤ 1000000 from by first | exact oz_f8a16524ad e7 nc8 | omega) (show 2 ≤ 1000000 from by first | decide | omega) _) hT (pr := [wdP cs h r g tf ta pf na ma wa cf ca ef ea xf xa]) (pcs := []) hw (oX_call (P := (fun A U H => (oZ A U H) ∧ (oS A sk2 st3 (mlen z1.toNatClampNeg) sb4 U H) ∧ (oS A sk118 st119 2 sb120 U H))) (pr := [wdP cs h r g tf ta pf na ma wa cf ca ef ea xf xa]) (oG_and oG_Z (oG_and oG_S oG_S)) hw hA ⟨hZ, hSsk2, hSsk118⟩) (oS_recv hw hSsk2) m11_225 m11_222 m11_223 m11_224 m1_3 q_String_equals ⟨Nat.le_of_ble_eq_true rfl, Nat.le_of_ble_eq_true rfl⟩ hl.1 rfl (Nat.le_of_ble_eq_true rfl) d_Mpg_two_107 ⟨Nat.le_of_ble_eq_true rfl, Nat.le_of_ble_eq_true rfl⟩) hw hA (fun v122 p121 H locs hp121 hw => ?_)
            obtain ⟨rfl, e123⟩ := hp121
            have e123 := z_rng e123
            have hw : pw D A s.heap H locs [wdP cs h r g tf ta pf na ma wa cf ca ef ea xf xa] := hw
            have lv122 := Int32.le_toInt v122
            have uv122 := Int32.toInt_lt v122
            refine lv_if_eq (tgt := 119) S.x S.b d_Mpg_two_110 (by decide) (fun c124 => ?_) (fun c124 => ?_)
            · have nc124 : v122.toInt = (0 : Int) := (i_eq (x := v122) (y := 0)).mp c124
              refine lv_aload S.x S.b d_Mpg_two_119 (lv_at hl 1 rfl) ?_
              obtain ⟨sk125, hRsk125, st126, sb127, hSsk125⟩ := oP_lit hP (k := 81) (tx := ">>") (n := 2) (List.mem_of_getElem? (i := 32) rfl)
              refine va_ldcS S.x S.b S.own hRsk125 d_Mpg_two_121 ?_
              refine px_calli (pr := [wdP cs h r g tf ta pf na ma wa cf ca ef ea xf xa]) (px_runV (As := [.ref sk125]) (rest := []) S (c_sg_equals l D cs sk2 st3 (mlen z1.toNatClampNeg) sb4 sk125 st126 2 sb127   (show (mlen z1.toNatClampNeg) ≤ 1000000 from by first | exact oz_f8a16524ad e7 nc8 | omega) (show 2 ≤ 1000000 from by first | decide | omega) _) hT (pr := [wdP cs h r g tf ta pf na ma wa cf ca ef ea xf xa]) (pcs := []) hw (oX_call (P := (fun A U H => (oZ A U H) ∧ (oS A sk2 st3 (mlen z1.toNatClampNeg) sb4 U H) ∧ (oS A sk125 st126 2 sb127 U H))) (pr := [wdP cs h r g tf ta pf na ma wa cf ca ef ea xf xa]) (oG_and oG_Z (oG_and oG_S oG_S)) hw hA ⟨hZ, hSsk2, hSsk125⟩) (oS_recv hw hSsk2) m11_225 m11_222 m11_223 m11_224 m1_3 q_String_equals ⟨Nat.le_of_ble_eq_true rfl, Nat.le_of_ble_eq_true rfl⟩ hl.1 rfl (Nat.le_of_ble_eq_true rfl) d_Mpg_two_123 ⟨Nat.le_of_ble_eq_true rfl, Nat.le_of_ble_eq_true rfl⟩) hw hA (fun v129 p128 H locs hp128 hw => ?_)
              obtain ⟨rfl, e130⟩ := hp128
              have e130 := z_rng e130
              have hw : pw D A s.heap H locs [wdP cs h r g tf ta pf na ma wa cf ca ef ea xf xa] := hw
              have lv129 := Int32.le_toInt v129
              have uv129 := Int32.toInt_lt v129
              refine lv_if_eq (tgt := 135) S.x S.b d_Mpg_two_126 (by decide) (fun c131 => ?_) (fun c131 => ?_)
              · have nc131 : v129.toInt = (0 : Int) := (i_eq (x := v129) (y := 0)).mp c131
                refine lv_iload S.x S.b d_Mpg_two_135 (lv_at hl 0 rfl) ?_
                refine lv_if_eq (tgt := 144) S.x S.b d_Mpg_two_137 (by decide) (fun c132 => ?_) (fun c132 => ?_)
                · exact absurd c132 (by decide)
                ·
                  refine lv_iconst (v := 1) S.x S.b d_Mpg_two_140 (by decide) ?_
                  refine lv_goto (tgt := 145) S.x S.b d_Mpg_two_141 (by decide) ?_
                  exact px_iret (v := 1) S hr rfl hlk hAe hw (Nat.le_of_ble_eq_true rfl) (Nat.le_of_ble_eq_true rfl) (⟨cf, rfl, (show KpE cf cf from hke), (show WrV cf (tf 6).toInt from hwr), (show (cf 33).toInt = (cf 33).toInt from rfl), (show (cf 38).toInt = (cf 38).toInt from rfl), (show (cf 48).toInt = (cf 48).toInt from rfl), (show (cf 47).toInt = (cf 47).toInt from rfl)⟩) d_Mpg_two_145
              · have nc131 : ¬ v129.toInt = (0 : Int) := mt (i_eq (x := v129) (y := 0)).mpr c131
                refine lv_iload_n S.x S.b d_Mpg_two_129 rfl (lv_at hl 4 rfl) ?_
                refine lv_iload_n S.x S.b d_Mpg_two_130 rfl (lv_at hl 5 rfl) ?_
                refine lv_ishr S.x S.b d_Mpg_two_131 ?_
                refine lv_topi (fun z133 ez133 => ?_)
                have lz133 := Int32.le_toInt z133
                have uz133 := Int32.toInt_lt z133
                refine lv_goto (tgt := 145) S.x S.b d_Mpg_two_132 (by decide) ?_
                exact px_iret (v := z133) S hr rfl hlk hAe hw (Nat.le_of_ble_eq_true rfl) (Nat.le_of_ble_eq_true rfl) (⟨cf, rfl, (show KpE cf cf from hke), (show WrV cf (tf 6).toInt from hwr), (show (cf 33).toInt = (cf 33).toInt from rfl), (show (cf 38).toInt = (cf 38).toInt from rfl), (show (cf 48).toInt = (cf 48).toInt from rfl), (show (cf 47).toInt = (cf 47).toInt from rfl)⟩) d_Mpg_two_145
            · have nc124 : ¬ v122.toInt = (0 : Int) := mt (i_eq (x := v122) (y := 0)).mpr c124
              refine lv_iload_n S.x S.b d_Mpg_two_113 rfl (lv_at hl 4 rfl) ?_
              refine lv_iload_n S.x S.b d_Mpg_two_114 rfl (lv_at hl 5 rfl) ?_
              refine lv_ishl S.x S.b d_Mpg_two_115 ?_
              refine lv_topi (fun z134 ez134 => ?_)
              have lz134 := Int32.le_toInt z134
              have uz134 := Int32.toInt_lt z134
              refine lv_goto (tgt := 145) S.x S.b d_Mpg_two_116 (by decide) ?_
              exact px_iret (v := z134) S hr rfl hlk hAe hw (Nat.le_of_ble_eq_true rfl) (Nat.le_of_ble_eq_true rfl) (⟨cf, rfl, (show KpE cf cf from hke), (show WrV cf (tf 6).toInt from hwr), (show (cf 33).toInt = (cf 33).toInt from rfl), (show (cf 38).toInt = (cf 38).toInt from rfl), (show (cf 48).toInt = (cf 48).toInt from rfl), (show (cf 47).toInt = (cf 47).toInt from rfl)⟩) d_Mpg_two_145
      · have nc57 : ¬ v55.toInt = (0 : Int) := mt (i_eq (x := v55) (y := 0)).mpr c57
        refine lv_iload_n S.x S.b d_Mpg_two_55 rfl (lv_at hl 3 rfl) ?_
        refine lv_iload_n S.x S.b d_Mpg_two_56 rfl (lv_at hl 4 rfl) ?_
        refine lv_icmp_eq (tgt := 64) S.x S.b d_Mpg_two_57 (by decide) (fun c135 => ?_) (fun c135 => ?_)
        · have nc135 : p1.toInt = p2.toInt := (i_eq (x := p1) (y := p2)).mp c135
          refine lv_iconst (v := 0) S.x S.b d_Mpg_two_64 (by decide) ?_
          refine lv_goto (tgt := 101) S.x S.b d_Mpg_two_65 (by decide) ?_
          refine lv_istore (lv' := [(5, .int 0), (4, .ref sk2), (0, .ref h), (1, .int p0), (2, .int p1), (3, .int p2)]) S.x S.b d_Mpg_two_101 hl (by decide) rfl (fun ls hl => ?_)
          refine lv_aload S.x S.b d_Mpg_two_103 (lv_at hl 1 rfl) ?_
          obtain ⟨sk136, hRsk136, st137, sb138, hSsk136⟩ := oP_lit hP (k := 79) (tx := "<<") (n := 2) (List.mem_of_getElem? (i := 31) rfl)
          refine va_ldcS S.x S.b S.own hRsk136 d_Mpg_two_105 ?_
          refine px_calli (pr := [wdP cs h r g tf ta pf na ma wa cf ca ef ea xf xa]) (px_runV (As := [.ref sk136]) (rest := []) S (c_sg_equals l D cs sk2 st3 (mlen z1.toNatClampNeg) sb4 sk136 st137 2 sb138   (show (mlen z1.toNatClampNeg) ≤ 1000000 from by first | exact oz_f8a16524ad e7 nc8 | omega) (show 2 ≤ 1000000 from by first | decide | omega) _) hT (pr := [wdP cs h r g tf ta pf na ma wa cf ca ef ea xf xa]) (pcs := []) hw (oX_call (P := (fun A U H => (oZ A U H) ∧ (oS A sk2 st3 (mlen z1.toNatClampNeg) sb4 U H) ∧ (oS A sk136 st137 2 sb138 U H))) (pr := [wdP cs h r g tf ta pf na ma wa cf ca ef ea xf xa]) (oG_and oG_Z (oG_and oG_S oG_S)) hw hA ⟨hZ, hSsk2, hSsk136⟩) (oS_recv hw hSsk2) m11_225 m11_222 m11_223 m11_224 m1_3 q_String_equals ⟨Nat.le_of_ble_eq_true rfl, Nat.le_of_ble_eq_true rfl⟩ hl.1 rfl (Nat.le_of_ble_eq_true rfl) d_Mpg_two_107 ⟨Nat.le_of_ble_eq_true rfl, Nat.le_of_ble_eq_true rfl⟩) hw hA (fun v140 p139 H locs hp139 hw => ?_)
          obtain ⟨rfl, e141⟩ := hp139
          have e141 := z_rng e141
          have hw : pw D A s.heap H locs [wdP cs h r g tf ta pf na ma wa cf ca ef ea xf xa] := hw
          have lv140 := Int32.le_toInt v140
          have uv140 := Int32.toInt_lt v140
          refine lv_if_eq (tgt := 119) S.x S.b d_Mpg_two_110 (by decide) (fun c142 => ?_) (fun c142 => ?_)
          · have nc142 : v140.toInt = (0 : Int) := (i_eq (x := v140) (y := 0)).mp c142
            refine lv_aload S.x S.b d_Mpg_two_119 (lv_at hl 1 rfl) ?_
            obtain ⟨sk143, hRsk143, st144, sb145, hSsk143⟩ := oP_lit hP (k := 81) (tx := ">>") (n := 2) (List.mem_of_getElem? (i := 32) rfl)
            refine va_ldcS S.x S.b S.own hRsk143 d_Mpg_two_121 ?_
            refine px_calli (pr := [wdP cs h r g tf ta pf na ma wa cf ca ef ea xf xa]) (px_runV (As := [.ref sk143]) (rest := []) S (c_sg_equals l D cs sk2 st3 (mlen z1.toNatClampNeg) sb4 sk143 st144 2 sb145   (show (mlen z1.toNatClampNeg) ≤ 1000000 from by first | exact oz_f8a16524ad e7 nc8 | omega) (show 2 ≤ 1000000 from by first | decide | omega) _) hT (pr := [wdP cs h r g tf ta pf na ma wa cf ca ef ea xf xa]) (pcs := []) hw (oX_call (P := (fun A U H => (oZ A U H) ∧ (oS A sk2 st3 (mlen z1.toNatClampNeg) sb4 U H) ∧ (oS A sk143 st144 2 sb145 U H))) (pr := [wdP cs h r g tf ta pf na ma wa cf ca ef ea xf xa]) (oG_and oG_Z (oG_and oG_S oG_S)) hw hA ⟨hZ, hSsk2, hSsk143⟩) (oS_recv hw hSsk2) m11_225 m11_222 m11_223 m11_224 m1_3 q_String_equals ⟨Nat.le_of_ble_eq_true rfl, Nat.le_of_ble_eq_true rfl⟩ hl.1 rfl (Nat.le_of_ble_eq_true rfl) d_Mpg_two_123 ⟨Nat.le_of_ble_eq_true rfl, Nat.le_of_ble_eq_true rfl⟩) hw hA (fun v147 p146 H locs hp146 hw => ?_)
            obtain ⟨rfl, e148⟩ := hp146
            have e148 := z_rng e148
            have hw : pw D A s.heap H locs [wdP cs h r g tf ta pf na ma wa cf ca ef ea xf xa] := hw
            have lv147 := Int32.le_toInt v147
            have uv147 := Int32.toInt_lt v147
            refine lv_if_eq (tgt := 135) S.x S.b d_Mpg_two_126 (by decide) (fun c149 => ?_) (fun c149 => ?_)
            · have nc149 : v147.toInt = (0 : Int) := (i_eq (x := v147) (y := 0)).mp c149
              refine lv_iload S.x S.b d_Mpg_two_135 (lv_at hl 0 rfl) ?_
              refine lv_if_eq (tgt := 144) S.x S.b d_Mpg_two_137 (by decide) (fun c150 => ?_) (fun c150 => ?_)
              ·
                refine lv_iconst (v := 0) S.x S.b d_Mpg_two_144 (by decide) ?_
                exact px_iret (v := 0) S hr rfl hlk hAe hw (Nat.le_of_ble_eq_true rfl) (Nat.le_of_ble_eq_true rfl) (⟨cf, rfl, (show KpE cf cf from hke), (show WrV cf (tf 6).toInt from hwr), (show (cf 33).toInt = (cf 33).toInt from rfl), (show (cf 38).toInt = (cf 38).toInt from rfl), (show (cf 48).toInt = (cf 48).toInt from rfl), (show (cf 47).toInt = (cf 47).toInt from rfl)⟩) d_Mpg_two_145
              · exact absurd c150 (by decide)
            · have nc149 : ¬ v147.toInt = (0 : Int) := mt (i_eq (x := v147) (y := 0)).mpr c149
              refine lv_iload_n S.x S.b d_Mpg_two_129 rfl (lv_at hl 4 rfl) ?_
              refine lv_iload_n S.x S.b d_Mpg_two_130 rfl (lv_at hl 5 rfl) ?_
              refine lv_ishr S.x S.b d_Mpg_two_131 ?_
              refine lv_topi (fun z151 ez151 => ?_)
              have lz151 := Int32.le_toInt z151
              have uz151 := Int32.toInt_lt z151
              refine lv_goto (tgt := 145) S.x S.b d_Mpg_two_132 (by decide) ?_
              exact px_iret (v := z151) S hr rfl hlk hAe hw (Nat.le_of_ble_eq_true rfl) (Nat.le_of_ble_eq_true rfl) (⟨cf, rfl, (show KpE cf cf from hke), (show WrV cf (tf 6).toInt from hwr), (show (cf 33).toInt = (cf 33).toInt from rfl), (show (cf 38).toInt = (cf 38).toInt from rfl), (show (cf 48).toInt = (cf 48).toInt from rfl), (show (cf 47).toInt = (cf 47).toInt from rfl)⟩) d_Mpg_two_145
          · have nc142 : ¬ v140.toInt = (0 : Int) := mt (i_eq (x := v140) (y := 0)).mpr c142
            refine lv_iload_n S.x S.b d_Mpg_two_113 rfl (lv_at hl 4 rfl) ?_
            refine lv_iload_n S.x S.b d_Mpg_two_114 rfl (lv_at hl 5 rfl) ?_
            refine lv_ishl S.x S.b d_Mpg_two_115 ?_
            refine lv_topi (fun z152 ez152 => ?_)
            have lz152 := Int32.le_toInt z152
            have uz152 := Int32.toInt_lt z152
            refine lv_goto (tgt := 145) S.x S.b d_Mpg_two_116 (by decide) ?_
            exact px_iret (v := z152) S hr rfl hlk hAe hw (Nat.le_of_ble_eq_true rfl) (Nat.le_of_ble_eq_true rfl) (⟨cf, rfl, (show KpE cf cf from hke), (show WrV cf (tf 6).toInt from hwr), (show (cf 33).toInt = (cf 33).toInt from rfl), (show (cf 38).toInt = (cf 38).toInt from rfl), (show (cf 48).toInt = (cf 48).toInt from rfl), (show (cf 47).toInt = (cf 47).toInt from rfl)⟩) d_Mpg_two_145
        · have nc135 : ¬ p1.toInt = p2.toInt := mt (i_eq (x := p1) (y := p2)).mpr c135
          refine lv_iconst (v := 1) S.x S.b d_Mpg_two_60 (by decide) ?_
          refine lv_goto (tgt := 101) S.x S.b d_Mpg_two_61 (by decide) ?_
          refine lv_istore (lv' := [(5, .int 1), (4, .ref sk2), (0, .ref h), (1, .int p0), (2, .int p1), (3, .int p2)]) S.x S.b d_Mpg_two_101 hl (by decide) rfl (fun ls hl => ?_)
          refine lv_aload S.x S.b d_Mpg_two_103 (lv_at hl 1 rfl) ?_
          obtain ⟨sk153, hRsk153, st154, sb155, hSsk153⟩ := oP_lit hP (k := 79) (tx := "<<") (n := 2) (List.mem_of_getElem? (i := 31) rfl)
          refine va_ldcS S.x S.b S.own hRsk153 d_Mpg_two_105 ?_
          refine px_calli (pr := [wdP cs h r g tf ta pf na ma wa cf ca ef ea xf xa]) (px_runV (As := [.ref sk153]) (rest := []) S (c_sg_equals l D cs sk2 st3 (mlen z1.toNatClampNeg) sb4 sk153 st154 2 sb155   (show (mlen z1.toNatClampNeg) ≤ 1000000 from by first | exact oz_f8a16524ad e7 nc8 | omega) (show 2 ≤ 1000000 from by first | decide | omega) _) hT (pr := [wdP cs h r g tf ta pf na ma wa cf ca ef ea xf xa]) (pcs := []) hw (oX_call (P := (fun A U H => (oZ A U H) ∧ (oS A sk2 st3 (mlen z1.toNatClampNeg) sb4 U H) ∧ (oS A sk153 st154 2 sb155 U H))) (pr := [wdP cs h r g tf ta pf na ma wa cf ca ef ea xf xa]) (oG_and oG_Z (oG_and oG_S oG_S)) hw hA ⟨hZ, hSsk2, hSsk153⟩) (oS_recv hw hSsk2) m11_225 m11_222 m11_223 m11_224 m1_3 q_String_equals ⟨Nat.le_of_ble_eq_true rfl, Nat.le_of_ble_eq_true rfl⟩ hl.1 rfl (Nat.le_of_ble_eq_true rfl) d_Mpg_two_107 ⟨Nat.le_of_ble_eq_true rfl, Nat.le_of_ble_eq_true rfl⟩) hw hA (fun v157 p156 H locs hp156 hw => ?_)
          obtain ⟨rfl, e158⟩ := hp156
          have e158 := z_rng e158
          have hw : pw D A s.heap H locs [wdP cs h r g tf ta pf na ma wa cf ca ef ea xf xa] := hw
          have lv157 := Int32.le_toInt v157
          have uv157 := Int32.toInt_lt v157
          refine lv_if_eq (tgt := 119) S.x S.b d_Mpg_two_110 (by decide) (fun c159 => ?_) (fun c159 => ?_)
          · have nc159 : v157.toInt = (0 : Int) := (i_eq (x := v157) (y := 0)).mp c159
            refine lv_aload S.x S.b d_Mpg_two_119 (lv_at hl 1 rfl) ?_
            obtain ⟨sk160, hRsk160, st161, sb162, hSsk160⟩ := oP_lit hP (k := 81) (tx := ">>") (n := 2) (List.mem_of_getElem? (i := 32) rfl)
            refine va_ldcS S.x S.b S.own hRsk160 d_Mpg_two_121 ?_
            refine px_calli (pr := [wdP cs h r g tf ta pf na ma wa cf ca ef ea xf xa]) (px_runV (As := [.ref sk160]) (rest := []) S (c_sg_equals l D cs sk2 st3 (mlen z1.toNatClampNeg) sb4 sk160 st161 2 sb162   (show (mlen z1.toNatClampNeg) ≤ 1000000 from by first | exact oz_f8a16524ad e7 nc8 | omega) (show 2 ≤ 1000000 from by first | decide | omega) _) hT (pr := [wdP cs h r g tf ta pf na ma wa cf ca ef ea xf xa]) (pcs := []) hw (oX_call (P := (fun A U H => (oZ A U H) ∧ (oS A sk2 st3 (mlen z1.toNatClampNeg) sb4 U H) ∧ (oS A sk160 st161 2 sb162 U H))) (pr := [wdP cs h r g tf ta pf na ma wa cf ca ef ea xf xa]) (oG_and oG_Z (oG_and oG_S oG_S)) hw hA ⟨hZ, hSsk2, hSsk160⟩) (oS_recv hw hSsk2) m11_225 m11_222 m11_223 m11_224 m1_3 q_String_equals ⟨Nat.le_of_ble_eq_true rfl, Nat.le_of_ble_eq_true rfl⟩ hl.1 rfl (Nat.le_of_ble_eq_true rfl) d_Mpg_two_123 ⟨Nat.le_of_ble_eq_true rfl, Nat.le_of_ble_eq_true rfl⟩) hw hA (fun v164 p163 H locs hp163 hw => ?_)
            obtain ⟨rfl, e165⟩ := hp163
            have e165 := z_rng e165
            have hw : pw D A s.heap H locs [wdP cs h r g tf ta pf na ma wa cf ca ef ea xf xa] := hw
            have lv164 := Int32.le_toInt v164
            have uv164 := Int32.toInt_lt v164
            refine lv_if_eq (tgt := 135) S.x S.b d_Mpg_two_126 (by decide) (fun c166 => ?_) (fun c166 => ?_)
            · have nc166 : v164.toInt = (0 : Int) := (i_eq (x := v164) (y := 0)).mp c166
              refine lv_iload S.x S.b d_Mpg_two_135 (lv_at hl 0 rfl) ?_
              refine lv_if_eq (tgt := 144) S.x S.b d_Mpg_two_137 (by decide) (fun c167 => ?_) (fun c167 => ?_)
              · exact absurd c167 (by decide)
              ·
                refine lv_iconst (v := 1) S.x S.b d_Mpg_two_140 (by decide) ?_
                refine lv_goto (tgt := 145) S.x S.b d_Mpg_two_141 (by decide) ?_
                exact px_iret (v := 1) S hr rfl hlk hAe hw (Nat.le_of_ble_eq_true rfl) (Nat.le_of_ble_eq_true rfl) (⟨cf, rfl, (show KpE cf cf from hke), (show WrV cf (tf 6).toInt from hwr), (show (cf 33).toInt = (cf 33).toInt from rfl), (show (cf 38).toInt = (cf 38).toInt from rfl), (show (cf 48).toInt = (cf 48).toInt from rfl), (show (cf 47).toInt = (cf 47).toInt from rfl)⟩) d_Mpg_two_145
            · have nc166 : ¬ v164.toInt = (0 : Int) := mt (i_eq (x := v164) (y := 0)).mpr c166
              refine lv_iload_n S.x S.b d_Mpg_two_129 rfl (lv_at hl 4 rfl) ?_
              refine lv_iload_n S.x S.b d_Mpg_two_130 rfl (lv_at hl 5 rfl) ?_
              refine lv_ishr S.x S.b d_Mpg_two_131 ?_
              refine lv_topi (fun z168 ez168 => ?_)
              have lz168 := Int32.le_toInt z168
              have uz168 := Int32.toInt_lt z168
              refine lv_goto (tgt := 145) S.x S.b d_Mpg_two_132 (by decide) ?_
              exact px_iret (v := z168) S hr rfl hlk hAe hw (Nat.le_of_ble_eq_true rfl) (Nat.le_of_ble_eq_true rfl) (⟨cf, rfl, (show KpE cf cf from hke), (show WrV cf (tf 6).toInt from hwr), (show (cf 33).toInt = (cf 33).toInt from rfl), (show (cf 38).toInt = (cf 38).toInt from rfl), (show (cf 48).toInt = (cf 48).toInt from rfl), (show (cf 47).toInt = (cf 47).toInt from rfl)⟩) d_Mpg_two_145
          · have nc159 : ¬ v157.toInt = (0 : Int) := mt (i_eq (x := v157) (y := 0)).mpr c159
            refine lv_iload_n S.x S.b d_Mpg_two_113 rfl (lv_at hl 4 rfl) ?_
            refine lv_iload_n S.x S.b d_Mpg_two_114 rfl (lv_at hl 5 rfl) ?_
            refine lv_ishl S.x S.b d_Mpg_two_115 ?_
            refine lv_topi (fun z169 ez169 => ?_)
            have lz169 := Int32.le_toInt z169
            have uz169 := Int32.toInt_lt z169
            refine lv_goto (tgt := 145) S.x S.b d_Mpg_two_116 (by decide) ?_
            exact px_iret (v := z169) S hr rfl hlk hAe hw (Nat.le_of_ble_eq_true rfl) (Nat.le_of_ble_eq_true rfl) (⟨cf, rfl, (show KpE cf cf from hke), (show WrV cf (tf 6).toInt from hwr), (show (cf 33).toInt = (cf 33).toInt from rfl), (show (cf 38).toInt = (cf 38).toInt from rfl), (show (cf 48).toInt = (cf 48).toInt from rfl), (show (cf 47).toInt = (cf 47).toInt from rfl)⟩) d_Mpg_two_145
    · have nc50 : ¬ v48.toInt = (0 : Int) := mt (i_eq (x := v48) (y := 0)).mpr c50
      refine lv_iload_n S.x S.b d_Mpg_two_32 rfl (lv_at hl 3 rfl) ?_
      refine lv_iload_n S.x S.b d_Mpg_two_33 rfl (lv_at hl 4 rfl) ?_
      refine lv_icmp_ne (tgt := 41) S.x S.b d_Mpg_two_34 (by decide) (fun c170 => ?_) (fun c170 => ?_)
      · have nc170 : ¬ p1.toInt = p2.toInt := mt (i_eq (x := p1) (y := p2)).mpr c170
        refine lv_iconst (v := 0) S.x S.b d_Mpg_two_41 (by decide) ?_
        refine lv_goto (tgt := 101) S.x S.b d_Mpg_two_42 (by decide) ?_
        refine lv_istore (lv' := [(5, .int 0), (4, .ref sk2), (0, .ref h), (1, .int p0), (2, .int p1), (3, .int p2)]) S.x S.b d_Mpg_two_101 hl (by decide) rfl (fun ls hl => ?_)
        refine lv_aload S.x S.b d_Mpg_two_103 (lv_at hl 1 rfl) ?_
        obtain ⟨sk171, hRsk171, st172, sb173, hSsk171⟩ := oP_lit hP (k := 79) (tx := "<<") (n := 2) (List.mem_of_getElem? (i := 31) rfl)
        refine va_ldcS S.x S.b S.own hRsk171 d_Mpg_two_105 ?_
        refine px_calli (pr := [wdP cs h r g tf ta pf na ma wa cf ca ef ea xf xa]) (px_runV (As := [.ref sk171]) (rest := []) S (c_sg_equals l D cs sk2 st3 (mlen z1.toNatClampNeg) sb4 sk171 st172 2 sb173   (show (mlen z1.toNatClampNeg) ≤ 1000000 from by first | exact oz_f8a16524ad e7 nc8 | omega) (show 2 ≤ 1000000 from by first | decide | omega) _) hT (pr := [wdP cs h r g tf ta pf na ma wa cf ca ef ea xf xa]) (pcs := []) hw (oX_call (P := (fun A U H => (oZ A U H) ∧ (oS A sk2 st3 (mlen z1.toNatClampNeg) sb4 U H) ∧ (oS A sk171 st172 2 sb173 U H))) (pr := [wdP cs h r g tf ta pf na ma wa cf ca ef ea xf xa]) (oG_and oG_Z (oG_and oG_S oG_S)) hw hA ⟨hZ, hSsk2, hSsk171⟩) (oS_recv hw hSsk2) m11_225 m11_222 m11_223 m11_224 m1_3 q_String_equals ⟨Nat.le_of_ble_eq_true rfl, Nat.le_of_ble_eq_true rfl⟩ hl.1 rfl (Nat.le_of_ble_eq_true rfl) d_Mpg_two_107 ⟨Nat.le_of_ble_eq_true rfl, Nat.le_of_ble_eq_true rfl⟩) hw hA (fun v175 p174 H locs hp174 hw => ?_)
        obtain ⟨rfl, e176⟩ := hp174
        have e176 := z_rng e176
        have hw : pw D A s.heap H locs [wdP cs h r g tf ta pf na ma wa cf ca ef ea xf xa] := hw
        have lv175 := Int32.le_toInt v175
        have uv175 := Int32.toInt_lt v175
        refine lv_if_eq (tgt := 119) S.x S.b d_Mpg_two_110 (by decide) (fun c177 => ?_) (fun c177 => ?_)
        · have nc177 : v175.toInt = (0 : Int) := (i_eq (x := v175) (y := 0)).mp c177
          refine lv_aload S.x S.b d_Mpg_two_119 (lv_at hl 1 rfl) ?_
          obtain ⟨sk178, hRsk178, st179, sb180, hSsk178⟩ := oP_lit hP (k := 81) (tx := ">>") (n := 2) (List.mem_of_getElem? (i := 32) rfl)
          refine va_ldcS S.x S.b S.own hRsk178 d_Mpg_two_121 ?_
          refine px_calli (pr := [wdP cs h r g tf ta pf na ma wa cf ca ef ea xf xa]) (px_runV (As := [.ref sk178]) (rest := []) S (c_sg_equals l D cs sk2 st3 (mlen z1.toNatClampNeg) sb4 sk178 st179 2 sb180   (show (mlen z1.toNatClampNeg) ≤ 1000000 from by first | exact oz_f8a16524ad e7 nc8 | omega) (show 2 ≤ 1000000 from by first | decide | omega) _) hT (pr := [wdP cs h r g tf ta pf na ma wa cf ca ef ea xf xa]) (pcs := []) hw (oX_call (P := (fun A U H => (oZ A U H) ∧ (oS A sk2 st3 (mlen z1.toNatClampNeg) sb4 U H) ∧ (oS A sk178 st179 2 sb180 U H))) (pr := [wdP cs h r g tf ta pf na ma wa cf ca ef ea xf xa]) (oG_and oG_Z (oG_and oG_S oG_S)) hw hA ⟨hZ, hSsk2, hSsk178⟩) (oS_recv hw hSsk2) m11_225 m11_222 m11_223 m11_224 m1_3 q_String_equals ⟨Nat.le_of_ble_eq_true rfl, Nat.le_of_ble_eq_true rfl⟩ hl.1 rfl (Nat.le_of_ble_eq_true rfl) d_Mpg_two_123 ⟨Nat.le_of_ble_eq_true rfl, Nat.le_of_ble_eq_true rfl⟩) hw hA (fun v182 p181 H locs hp181 hw => ?_)
          obtain ⟨rfl, e183⟩ := hp181
          have e183 := z_rng e183
          have hw : pw D A s.heap H locs [wdP cs h r g tf ta pf na ma wa cf ca ef ea xf xa] := hw
          have lv182 := Int32.le_toInt v182
          have uv182 := Int32.toInt_lt v182
          refine lv_if_eq (tgt := 135) S.x S.b d_Mpg_two_126 (by decide) (fun c184 => ?_) (fun c184 => ?_)
          · have nc184 : v182.toInt = (0 : Int) := (i_eq (x := v182) (y := 0)).mp c184
            refine lv_iload S.x S.b d_Mpg_two_135 (lv_at hl 0 rfl) ?_
            refine lv_if_eq (tgt := 144) S.x S.b d_Mpg_two_137 (by decide) (fun c185 => ?_) (fun c185 => ?_)
            ·
              refine lv_iconst (v := 0) S.x S.b d_Mpg_two_144 (by decide) ?_
              exact px_iret (v := 0) S hr rfl hlk hAe hw (Nat.le_of_ble_eq_true rfl) (Nat.le_of_ble_eq_true rfl) (⟨cf, rfl, (show KpE cf cf from hke), (show WrV cf (tf 6).toInt from hwr), (show (cf 33).toInt = (cf 33).toInt from rfl), (show (cf 38).toInt = (cf 38).toInt from rfl), (show (cf 48).toInt = (cf 48).toInt from rfl), (show (cf 47).toInt = (cf 47).toInt from rfl)⟩) d_Mpg_two_145
            · exact absurd c185 (by decide)
          · have nc184 : ¬ v182.toInt = (0 : Int) := mt (i_eq (x := v182) (y := 0)).mpr c184
            refine lv_iload_n S.x S.b d_Mpg_two_129 rfl (lv_at hl 4 rfl) ?_
            refine lv_iload_n S.x S.b d_Mpg_two_130 rfl (lv_at hl 5 rfl) ?_
            refine lv_ishr S.x S.b d_Mpg_two_131 ?_
            refine lv_topi (fun z186 ez186 => ?_)
            have lz186 := Int32.le_toInt z186
            have uz186 := Int32.toInt_lt z186
            refine lv_goto (tgt := 145) S.x S.b d_Mpg_two_132 (by decide) ?_
            exact px_iret (v := z186) S hr rfl hlk hAe hw (Nat.le_of_ble_eq_true rfl) (Nat.le_of_ble_eq_true rfl) (⟨cf, rfl, (show KpE cf cf from hke), (show WrV cf (tf 6).toInt from hwr), (show (cf 33).toInt = (cf 33).toInt from rfl), (show (cf 38).toInt = (cf 38).toInt from rfl), (show (cf 48).toInt = (cf 48).toInt from rfl), (show (cf 47).toInt = (cf 47).toInt from rfl)⟩) d_Mpg_two_145
        · have nc177 : ¬ v175.toInt = (0 : Int) := mt (i_eq (x := v175) (y := 0)).mpr c177
          refine lv_iload_n S.x S.b d_Mpg_two_113 rfl (lv_at hl 4 rfl) ?_
          refine lv_iload_n S.x S.b d_Mpg_two_114 rfl (lv_at hl 5 rfl) ?_
          refine lv_ishl S.x S.b d_Mpg_two_115 ?_
          refine lv_topi (fun z187 ez187 => ?_)
          have lz187 := Int32.le_toInt z187
          have uz187 := Int32.toInt_lt z187
          refine lv_goto (tgt := 145) S.x S.b d_Mpg_two_116 (by decide) ?_
          exact px_iret (v := z187) S hr rfl hlk hAe hw (Nat.le_of_ble_eq_true rfl) (Nat.le_of_ble_eq_true rfl) (⟨cf, rfl, (show KpE cf cf from hke), (show WrV cf (tf 6).toInt from hwr), (show (cf 33).toInt = (cf 33).toInt from rfl), (show (cf 38).toInt = (cf 38).toInt from rfl), (show (cf 48).toInt = (cf 48).toInt from rfl), (show (cf 47).toInt = (cf 47).toInt from rfl)⟩) d_Mpg_two_145
      · have nc170 : p1.toInt = p2.toInt := (i_eq (x := p1) (y := p2)).mp c170
        refine lv_iconst (v := 1) S.x S.b d_Mpg_two_37 (by decide) ?_
        refine lv_goto (tgt := 101) S.x S.b d_Mpg_two_38 (by decide) ?_
        refine lv_istore (lv' := [(5, .int 1), (4, .ref sk2), (0, .ref h), (1, .int p0), (2, .int p1), (3, .int p2)]) S.x S.b d_Mpg_two_101 hl (by decide) rfl (fun ls hl => ?_)
        refine lv_aload S.x S.b d_Mpg_two_103 (lv_at hl 1 rfl) ?_
        obtain ⟨sk188, hRsk188, st189, sb190, hSsk188⟩ := oP_lit hP (k := 79) (tx := "<<") (n := 2) (List.mem_of_getElem? (i := 31) rfl)
        refine va_ldcS S.x S.b S.own hRsk188 d_Mpg_two_105 ?_
        refine px_calli (pr := [wdP cs h r g tf ta pf na ma wa cf ca ef ea xf xa]) (px_runV (As := [.ref sk188]) (rest := []) S (c_sg_equals l D cs sk2 st3 (mlen z1.toNatClampNeg) sb4 sk188 st189 2 sb190   (show (mlen z1.toNatClampNeg) ≤ 1000000 from by first | exact oz_f8a16524ad e7 nc8 | omega) (show 2 ≤ 1000000 from by first | decide | omega) _) hT (pr := [wdP cs h r g tf ta pf na ma wa cf ca ef ea xf xa]) (pcs := []) hw (oX_call (P := (fun A U H => (oZ A U H) ∧ (oS A sk2 st3 (mlen z1.toNatClampNeg) sb4 U H) ∧ (oS A sk188 st189 2 sb190 U H))) (pr := [wdP cs h r g tf ta pf na ma wa cf ca ef ea xf xa]) (oG_and oG_Z (oG_and oG_S oG_S)) hw hA ⟨hZ, hSsk2, hSsk188⟩) (oS_recv hw hSsk2) m11_225 m11_222 m11_223 m11_224 m1_3 q_String_equals ⟨Nat.le_of_ble_eq_true rfl, Nat.le_of_ble_eq_true rfl⟩ hl.1 rfl (Nat.le_of_ble_eq_true rfl) d_Mpg_two_107 ⟨Nat.le_of_ble_eq_true rfl, Nat.le_of_ble_eq_true rfl⟩) hw hA (fun v192 p191 H locs hp191 hw => ?_)
        obtain ⟨rfl, e193⟩ := hp191
        have e193 := z_rng e193
        have hw : pw D A s.heap H locs [wdP cs h r g tf ta pf na ma wa cf ca ef ea xf xa] := hw
        have lv192 := Int32.le_toInt v192
        have uv192 := Int32.toInt_lt v192
        refine lv_if_eq (tgt := 119) S.x S.b d_Mpg_two_110 (by decide) (fun c194 => ?_) (fun c194 => ?_)
        · have nc194 : v192.toInt = (0 : Int) := (i_eq (x := v192) (y := 0)).mp c194
          refine lv_aload S.x S.b d_Mpg_two_119 (lv_at hl 1 rfl) ?_
          obtain ⟨sk195, hRsk195, st196, sb197, hSsk195⟩ := oP_lit hP (k := 81) (tx := ">>") (n := 2) (List.mem_of_getElem? (i := 32) rfl)
          refine va_ldcS S.x S.b S.own hRsk195 d_Mpg_two_121 ?_
          refine px_calli (pr := [wdP cs h r g tf ta pf na ma wa cf ca ef ea xf xa]) (px_runV (As := [.ref sk195]) (rest := []) S (c_sg_equals l D cs sk2 st3 (mlen z1.toNatClampNeg) sb4 sk195 st196 2 sb197   (show (mlen z1.toNatClampNeg) ≤ 1000000 from by first | exact oz_f8a16524ad e7 nc8 | omega) (show 2 ≤ 1000000 from by first | decide | omega) _) hT (pr := [wdP cs h r g tf ta pf na ma wa cf ca ef ea xf xa]) (pcs := []) hw (oX_call (P := (fun A U H => (oZ A U H) ∧ (oS A sk2 st3 (mlen z1.toNatClampNeg) sb4 U H) ∧ (oS A sk195 st196 2 sb197 U H))) (pr := [wdP cs h r g tf ta pf na ma wa cf ca ef ea xf xa]) (oG_and oG_Z (oG_and oG_S oG_S)) hw hA ⟨hZ, hSsk2, hSsk195⟩) (oS_recv hw hSsk2) m11_225 m11_222 m11_223 m11_224 m1_3 q_String_equals ⟨Nat.le_of_ble_eq_true rfl, Nat.le_of_ble_eq_true rfl⟩ hl.1 rfl (Nat.le_of_ble_eq_true rfl) d_Mpg_two_123 ⟨Nat.le_of_ble_eq_true rfl, Nat.le_of_ble_eq_true rfl⟩) hw hA (fun v199 p198 H locs hp198 hw => ?_)
          obtain ⟨rfl, e200⟩ := hp198
          have e200 := z_rng e200
          have hw : pw D A s.heap H locs [wdP cs h r g tf ta pf na ma wa cf ca ef ea xf xa] := hw
          have lv199 := Int32.le_toInt v199
          have uv199 := Int32.toInt_lt v199
          refine lv_if_eq (tgt := 135) S.x S.b d_Mpg_two_126 (by decide) (fun c201 => ?_) (fun c201 => ?_)
          · have nc201 : v199.toInt = (0 : Int) := (i_eq (x := v199) (y := 0)).mp c201
            refine lv_iload S.x S.b d_Mpg_two_135 (lv_at hl 0 rfl) ?_
            refine lv_if_eq (tgt := 144) S.x S.b d_Mpg_two_137 (by decide) (fun c202 => ?_) (fun c202 => ?_)
            · exact absurd c202 (by decide)
            ·
              refine lv_iconst (v := 1) S.x S.b d_Mpg_two_140 (by decide) ?_
              refine lv_goto (tgt := 145) S.x S.b d_Mpg_two_141 (by decide) ?_
              exact px_iret (v := 1) S hr rfl hlk hAe hw (Nat.le_of_ble_eq_true rfl) (Nat.le_of_ble_eq_true rfl) (⟨cf, rfl, (show KpE cf cf from hke), (show WrV cf (tf 6).toInt from hwr), (show (cf 33).toInt = (cf 33).toInt from rfl), (show (cf 38).toInt = (cf 38).toInt from rfl), (show (cf 48).toInt = (cf 48).toInt from rfl), (show (cf 47).toInt = (cf 47).toInt from rfl)⟩) d_Mpg_two_145
          · have nc201 : ¬ v199.toInt = (0 : Int) := mt (i_eq (x := v199) (y := 0)).mpr c201
            refine lv_iload_n S.x S.b d_Mpg_two_129 rfl (lv_at hl 4 rfl) ?_
            refine lv_iload_n S.x S.b d_Mpg_two_130 rfl (lv_at hl 5 rfl) ?_
            refine lv_ishr S.x S.b d_Mpg_two_131 ?_
            refine lv_topi (fun z203 ez203 => ?_)
            have lz203 := Int32.le_toInt z203
            have uz203 := Int32.toInt_lt z203
            refine lv_goto (tgt := 145) S.x S.b d_Mpg_two_132 (by decide) ?_
            exact px_iret (v := z203) S hr rfl hlk hAe hw (Nat.le_of_ble_eq_true rfl) (Nat.le_of_ble_eq_true rfl) (⟨cf, rfl, (show KpE cf cf from hke), (show WrV cf (tf 6).toInt from hwr), (show (cf 33).toInt = (cf 33).toInt from rfl), (show (cf 38).toInt = (cf 38).toInt from rfl), (show (cf 48).toInt = (cf 48).toInt from rfl), (show (cf 47).toInt = (cf 47).toInt from rfl)⟩) d_Mpg_two_145
        · have nc194 : ¬ v192.toInt = (0 : Int) := mt (i_eq (x := v192) (y := 0)).mpr c194
          refine lv_iload_n S.x S.b d_Mpg_two_113 rfl (lv_at hl 4 rfl) ?_
          refine lv_iload_n S.x S.b d_Mpg_two_114 rfl (lv_at hl 5 rfl) ?_
          refine lv_ishl S.x S.b d_Mpg_two_115 ?_
          refine lv_topi (fun z204 ez204 => ?_)
          have lz204 := Int32.le_toInt z204
          have uz204 := Int32.toInt_lt z204
          refine lv_goto (tgt := 145) S.x S.b d_Mpg_two_116 (by decide) ?_
          exact px_iret (v := z204) S hr rfl hlk hAe hw (Nat.le_of_ble_eq_true rfl) (Nat.le_of_ble_eq_true rfl) (⟨cf, rfl, (show KpE cf cf from hke), (show WrV cf (tf 6).toInt from hwr), (show (cf 33).toInt = (cf 33).toInt from rfl), (show (cf 38).toInt = (cf 38).toInt from rfl), (show (cf 48).toInt = (cf 48).toInt from rfl), (show (cf 47).toInt = (cf 47).toInt from rfl)⟩) d_Mpg_two_145
