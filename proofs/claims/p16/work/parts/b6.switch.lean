theorem m10_36 : Cond.fieldLink "HomeSystemModel$Program" 670 "HomeSystemModel$Program" "switches" "I" ∈ AL := AL_10 (List.mem_of_getElem? (i := 36) rfl) rfl
abbrev b_Mpg_checkSwitch : ByteArray := prog_16_method_95_code
def y_Mpg_checkSwitch : MethodName := ⟨"HomeSystemModel$Program", "checkSwitch", "(I)V"⟩
theorem d_Mpg_checkSwitch_0 : decode b_Mpg_checkSwitch 0 = .ok (.aload_n 0, 1) := by decide +kernel
theorem d_Mpg_checkSwitch_1 : decode b_Mpg_checkSwitch 1 = .ok (.aload_n 0, 1) := by decide +kernel
theorem d_Mpg_checkSwitch_2 : decode b_Mpg_checkSwitch 2 = .ok (.getfield 216, 3) := by decide +kernel
theorem d_Mpg_checkSwitch_5 : decode b_Mpg_checkSwitch 5 = .ok (.iload_n 1, 1) := by decide +kernel
theorem d_Mpg_checkSwitch_6 : decode b_Mpg_checkSwitch 6 = .ok (.iaload, 1) := by decide +kernel
theorem d_Mpg_checkSwitch_7 : decode b_Mpg_checkSwitch 7 = .ok (.iconst 1, 1) := by decide +kernel
theorem d_Mpg_checkSwitch_8 : decode b_Mpg_checkSwitch 8 = .ok (.invokevirtual 577, 3) := by decide +kernel
theorem d_Mpg_checkSwitch_11 : decode b_Mpg_checkSwitch 11 = .ok (.pop, 1) := by decide +kernel
theorem d_Mpg_checkSwitch_12 : decode b_Mpg_checkSwitch 12 = .ok (.aload_n 0, 1) := by decide +kernel
theorem d_Mpg_checkSwitch_13 : decode b_Mpg_checkSwitch 13 = .ok (.getfield 528, 3) := by decide +kernel
theorem d_Mpg_checkSwitch_16 : decode b_Mpg_checkSwitch 16 = .ok (.istore_n 2, 1) := by decide +kernel
theorem d_Mpg_checkSwitch_17 : decode b_Mpg_checkSwitch 17 = .ok (.aload_n 0, 1) := by decide +kernel
theorem d_Mpg_checkSwitch_18 : decode b_Mpg_checkSwitch 18 = .ok (.getfield 556, 3) := by decide +kernel
theorem d_Mpg_checkSwitch_21 : decode b_Mpg_checkSwitch 21 = .ok (.istore_n 3, 1) := by decide +kernel
theorem d_Mpg_checkSwitch_22 : decode b_Mpg_checkSwitch 22 = .ok (.aload_n 0, 1) := by decide +kernel
theorem d_Mpg_checkSwitch_23 : decode b_Mpg_checkSwitch 23 = .ok (.aload_n 0, 1) := by decide +kernel
theorem d_Mpg_checkSwitch_24 : decode b_Mpg_checkSwitch 24 = .ok (.getfield 528, 3) := by decide +kernel
theorem d_Mpg_checkSwitch_27 : decode b_Mpg_checkSwitch 27 = .ok (.putfield 556, 3) := by decide +kernel
theorem d_Mpg_checkSwitch_30 : decode b_Mpg_checkSwitch 30 = .ok (.aload_n 0, 1) := by decide +kernel
theorem d_Mpg_checkSwitch_31 : decode b_Mpg_checkSwitch 31 = .ok (.dup, 1) := by decide +kernel
theorem d_Mpg_checkSwitch_32 : decode b_Mpg_checkSwitch 32 = .ok (.getfield 670, 3) := by decide +kernel
theorem d_Mpg_checkSwitch_35 : decode b_Mpg_checkSwitch 35 = .ok (.iconst 1, 1) := by decide +kernel
theorem d_Mpg_checkSwitch_36 : decode b_Mpg_checkSwitch 36 = .ok (.iadd, 1) := by decide +kernel
theorem d_Mpg_checkSwitch_37 : decode b_Mpg_checkSwitch 37 = .ok (.putfield 670, 3) := by decide +kernel
theorem d_Mpg_checkSwitch_40 : decode b_Mpg_checkSwitch 40 = .ok (.iconst 0, 1) := by decide +kernel
theorem d_Mpg_checkSwitch_41 : decode b_Mpg_checkSwitch 41 = .ok (.istore 4, 2) := by decide +kernel
theorem d_Mpg_checkSwitch_43 : decode b_Mpg_checkSwitch 43 = .ok (.aload_n 0, 1) := by decide +kernel
theorem d_Mpg_checkSwitch_44 : decode b_Mpg_checkSwitch 44 = .ok (.getfield 219, 3) := by decide +kernel
theorem d_Mpg_checkSwitch_47 : decode b_Mpg_checkSwitch 47 = .ok (.iload_n 1, 1) := by decide +kernel
theorem d_Mpg_checkSwitch_48 : decode b_Mpg_checkSwitch 48 = .ok (.iaload, 1) := by decide +kernel
theorem d_Mpg_checkSwitch_49 : decode b_Mpg_checkSwitch 49 = .ok (.istore 5, 2) := by decide +kernel
theorem d_Mpg_checkSwitch_51 : decode b_Mpg_checkSwitch 51 = .ok (.iload 5, 2) := by decide +kernel
theorem d_Mpg_checkSwitch_53 : decode b_Mpg_checkSwitch 53 = .ok (.ifCond .lt 200, 3) := by decide +kernel
theorem d_Mpg_checkSwitch_56 : decode b_Mpg_checkSwitch 56 = .ok (.aload_n 0, 1) := by decide +kernel
theorem d_Mpg_checkSwitch_57 : decode b_Mpg_checkSwitch 57 = .ok (.getfield 207, 3) := by decide +kernel
theorem d_Mpg_checkSwitch_60 : decode b_Mpg_checkSwitch 60 = .ok (.iload 5, 2) := by decide +kernel
theorem d_Mpg_checkSwitch_62 : decode b_Mpg_checkSwitch 62 = .ok (.baload, 1) := by decide +kernel
theorem d_Mpg_checkSwitch_63 : decode b_Mpg_checkSwitch 63 = .ok (.bipush 29, 2) := by decide +kernel
theorem d_Mpg_checkSwitch_65 : decode b_Mpg_checkSwitch 65 = .ok (.if_icmp .ne 134, 3) := by decide +kernel
theorem d_Mpg_checkSwitch_68 : decode b_Mpg_checkSwitch 68 = .ok (.aload_n 0, 1) := by decide +kernel
theorem d_Mpg_checkSwitch_69 : decode b_Mpg_checkSwitch 69 = .ok (.getfield 231, 3) := by decide +kernel
theorem d_Mpg_checkSwitch_72 : decode b_Mpg_checkSwitch 72 = .ok (.iload 5, 2) := by decide +kernel
theorem d_Mpg_checkSwitch_74 : decode b_Mpg_checkSwitch 74 = .ok (.aload_n 0, 1) := by decide +kernel
theorem d_Mpg_checkSwitch_75 : decode b_Mpg_checkSwitch 75 = .ok (.aload_n 0, 1) := by decide +kernel
theorem d_Mpg_checkSwitch_76 : decode b_Mpg_checkSwitch 76 = .ok (.getfield 216, 3) := by decide +kernel
theorem d_Mpg_checkSwitch_79 : decode b_Mpg_checkSwitch 79 = .ok (.iload 5, 2) := by decide +kernel
theorem d_Mpg_checkSwitch_81 : decode b_Mpg_checkSwitch 81 = .ok (.iaload, 1) := by decide +kernel
theorem d_Mpg_checkSwitch_82 : decode b_Mpg_checkSwitch 82 = .ok (.invokevirtual 593, 3) := by decide +kernel
theorem d_Mpg_checkSwitch_85 : decode b_Mpg_checkSwitch 85 = .ok (.ifCond .eq 7, 3) := by decide +kernel
theorem d_Mpg_checkSwitch_88 : decode b_Mpg_checkSwitch 88 = .ok (.iconst 1, 1) := by decide +kernel
theorem d_Mpg_checkSwitch_89 : decode b_Mpg_checkSwitch 89 = .ok (.goto 4, 3) := by decide +kernel
theorem d_Mpg_checkSwitch_92 : decode b_Mpg_checkSwitch 92 = .ok (.iconst 0, 1) := by decide +kernel
theorem d_Mpg_checkSwitch_93 : decode b_Mpg_checkSwitch 93 = .ok (.iastore, 1) := by decide +kernel
theorem d_Mpg_checkSwitch_94 : decode b_Mpg_checkSwitch 94 = .ok (.aload_n 0, 1) := by decide +kernel
theorem d_Mpg_checkSwitch_95 : decode b_Mpg_checkSwitch 95 = .ok (.getfield 219, 3) := by decide +kernel
theorem d_Mpg_checkSwitch_98 : decode b_Mpg_checkSwitch 98 = .ok (.iload 5, 2) := by decide +kernel
theorem d_Mpg_checkSwitch_100 : decode b_Mpg_checkSwitch 100 = .ok (.aload_n 0, 1) := by decide +kernel
theorem d_Mpg_checkSwitch_101 : decode b_Mpg_checkSwitch 101 = .ok (.getfield 612, 3) := by decide +kernel
theorem d_Mpg_checkSwitch_104 : decode b_Mpg_checkSwitch 104 = .ok (.iastore, 1) := by decide +kernel
theorem d_Mpg_checkSwitch_105 : decode b_Mpg_checkSwitch 105 = .ok (.aload_n 0, 1) := by decide +kernel
theorem d_Mpg_checkSwitch_106 : decode b_Mpg_checkSwitch 106 = .ok (.getfield 219, 3) := by decide +kernel
theorem d_Mpg_checkSwitch_109 : decode b_Mpg_checkSwitch 109 = .ok (.iload_n 1, 1) := by decide +kernel
theorem d_Mpg_checkSwitch_110 : decode b_Mpg_checkSwitch 110 = .ok (.iaload, 1) := by decide +kernel
theorem d_Mpg_checkSwitch_111 : decode b_Mpg_checkSwitch 111 = .ok (.istore 6, 2) := by decide +kernel
theorem d_Mpg_checkSwitch_113 : decode b_Mpg_checkSwitch 113 = .ok (.iload 6, 2) := by decide +kernel
theorem d_Mpg_checkSwitch_115 : decode b_Mpg_checkSwitch 115 = .ok (.iload 5, 2) := by decide +kernel
theorem d_Mpg_checkSwitch_117 : decode b_Mpg_checkSwitch 117 = .ok (.if_icmp .eq 79, 3) := by decide +kernel
theorem d_Mpg_checkSwitch_120 : decode b_Mpg_checkSwitch 120 = .ok (.aload_n 0, 1) := by decide +kernel
theorem d_Mpg_checkSwitch_121 : decode b_Mpg_checkSwitch 121 = .ok (.getfield 207, 3) := by decide +kernel
theorem d_Mpg_checkSwitch_124 : decode b_Mpg_checkSwitch 124 = .ok (.iload 6, 2) := by decide +kernel
theorem d_Mpg_checkSwitch_126 : decode b_Mpg_checkSwitch 126 = .ok (.baload, 1) := by decide +kernel
theorem d_Mpg_checkSwitch_127 : decode b_Mpg_checkSwitch 127 = .ok (.bipush 29, 2) := by decide +kernel
theorem d_Mpg_checkSwitch_129 : decode b_Mpg_checkSwitch 129 = .ok (.if_icmp .ne 55, 3) := by decide +kernel
theorem d_Mpg_checkSwitch_132 : decode b_Mpg_checkSwitch 132 = .ok (.aload_n 0, 1) := by decide +kernel
theorem d_Mpg_checkSwitch_133 : decode b_Mpg_checkSwitch 133 = .ok (.getfield 231, 3) := by decide +kernel
theorem d_Mpg_checkSwitch_136 : decode b_Mpg_checkSwitch 136 = .ok (.iload 6, 2) := by decide +kernel
theorem d_Mpg_checkSwitch_138 : decode b_Mpg_checkSwitch 138 = .ok (.iaload, 1) := by decide +kernel
theorem d_Mpg_checkSwitch_139 : decode b_Mpg_checkSwitch 139 = .ok (.iconst 1, 1) := by decide +kernel
theorem d_Mpg_checkSwitch_140 : decode b_Mpg_checkSwitch 140 = .ok (.if_icmp .ne 44, 3) := by decide +kernel
theorem d_Mpg_checkSwitch_143 : decode b_Mpg_checkSwitch 143 = .ok (.aload_n 0, 1) := by decide +kernel
theorem d_Mpg_checkSwitch_144 : decode b_Mpg_checkSwitch 144 = .ok (.getfield 231, 3) := by decide +kernel
theorem d_Mpg_checkSwitch_147 : decode b_Mpg_checkSwitch 147 = .ok (.iload 5, 2) := by decide +kernel
theorem d_Mpg_checkSwitch_149 : decode b_Mpg_checkSwitch 149 = .ok (.iaload, 1) := by decide +kernel
theorem d_Mpg_checkSwitch_150 : decode b_Mpg_checkSwitch 150 = .ok (.iconst 1, 1) := by decide +kernel
theorem d_Mpg_checkSwitch_151 : decode b_Mpg_checkSwitch 151 = .ok (.if_icmp .ne 33, 3) := by decide +kernel
theorem d_Mpg_checkSwitch_154 : decode b_Mpg_checkSwitch 154 = .ok (.aload_n 0, 1) := by decide +kernel
theorem d_Mpg_checkSwitch_155 : decode b_Mpg_checkSwitch 155 = .ok (.getfield 219, 3) := by decide +kernel
theorem d_Mpg_checkSwitch_158 : decode b_Mpg_checkSwitch 158 = .ok (.iload 6, 2) := by decide +kernel
theorem d_Mpg_checkSwitch_160 : decode b_Mpg_checkSwitch 160 = .ok (.iaload, 1) := by decide +kernel
theorem d_Mpg_checkSwitch_161 : decode b_Mpg_checkSwitch 161 = .ok (.aload_n 0, 1) := by decide +kernel
theorem d_Mpg_checkSwitch_162 : decode b_Mpg_checkSwitch 162 = .ok (.getfield 219, 3) := by decide +kernel
theorem d_Mpg_checkSwitch_165 : decode b_Mpg_checkSwitch 165 = .ok (.iload 5, 2) := by decide +kernel
theorem d_Mpg_checkSwitch_167 : decode b_Mpg_checkSwitch 167 = .ok (.iaload, 1) := by decide +kernel
theorem d_Mpg_checkSwitch_168 : decode b_Mpg_checkSwitch 168 = .ok (.if_icmp .ne 16, 3) := by decide +kernel
theorem d_Mpg_checkSwitch_171 : decode b_Mpg_checkSwitch 171 = .ok (.aload_n 0, 1) := by decide +kernel
theorem d_Mpg_checkSwitch_172 : decode b_Mpg_checkSwitch 172 = .ok (.bipush 10, 2) := by decide +kernel
theorem d_Mpg_checkSwitch_174 : decode b_Mpg_checkSwitch 174 = .ok (.aload_n 0, 1) := by decide +kernel
theorem d_Mpg_checkSwitch_175 : decode b_Mpg_checkSwitch 175 = .ok (.getfield 210, 3) := by decide +kernel
theorem d_Mpg_checkSwitch_178 : decode b_Mpg_checkSwitch 178 = .ok (.iload 5, 2) := by decide +kernel
theorem d_Mpg_checkSwitch_180 : decode b_Mpg_checkSwitch 180 = .ok (.iaload, 1) := by decide +kernel
theorem d_Mpg_checkSwitch_181 : decode b_Mpg_checkSwitch 181 = .ok (.invokevirtual 565, 3) := by decide +kernel
theorem d_Mpg_checkSwitch_184 : decode b_Mpg_checkSwitch 184 = .ok (.aload_n 0, 1) := by decide +kernel
theorem d_Mpg_checkSwitch_185 : decode b_Mpg_checkSwitch 185 = .ok (.getfield 228, 3) := by decide +kernel
theorem d_Mpg_checkSwitch_188 : decode b_Mpg_checkSwitch 188 = .ok (.iload 6, 2) := by decide +kernel
theorem d_Mpg_checkSwitch_190 : decode b_Mpg_checkSwitch 190 = .ok (.iaload, 1) := by decide +kernel
theorem d_Mpg_checkSwitch_191 : decode b_Mpg_checkSwitch 191 = .ok (.istore 6, 2) := by decide +kernel
theorem d_Mpg_checkSwitch_193 : decode b_Mpg_checkSwitch 193 = .ok (.goto (-80), 3) := by decide +kernel
theorem d_Mpg_checkSwitch_196 : decode b_Mpg_checkSwitch 196 = .ok (.goto 45, 3) := by decide +kernel
theorem d_Mpg_checkSwitch_199 : decode b_Mpg_checkSwitch 199 = .ok (.aload_n 0, 1) := by decide +kernel
theorem d_Mpg_checkSwitch_200 : decode b_Mpg_checkSwitch 200 = .ok (.getfield 207, 3) := by decide +kernel
theorem d_Mpg_checkSwitch_203 : decode b_Mpg_checkSwitch 203 = .ok (.iload 5, 2) := by decide +kernel
theorem d_Mpg_checkSwitch_205 : decode b_Mpg_checkSwitch 205 = .ok (.baload, 1) := by decide +kernel
theorem d_Mpg_checkSwitch_206 : decode b_Mpg_checkSwitch 206 = .ok (.bipush 30, 2) := by decide +kernel
theorem d_Mpg_checkSwitch_208 : decode b_Mpg_checkSwitch 208 = .ok (.if_icmp .ne 27, 3) := by decide +kernel
theorem d_Mpg_checkSwitch_211 : decode b_Mpg_checkSwitch 211 = .ok (.iload 4, 2) := by decide +kernel
theorem d_Mpg_checkSwitch_213 : decode b_Mpg_checkSwitch 213 = .ok (.ifCond .eq 16, 3) := by decide +kernel
theorem d_Mpg_checkSwitch_216 : decode b_Mpg_checkSwitch 216 = .ok (.aload_n 0, 1) := by decide +kernel
theorem d_Mpg_checkSwitch_217 : decode b_Mpg_checkSwitch 217 = .ok (.bipush 10, 2) := by decide +kernel
theorem d_Mpg_checkSwitch_219 : decode b_Mpg_checkSwitch 219 = .ok (.aload_n 0, 1) := by decide +kernel
theorem d_Mpg_checkSwitch_220 : decode b_Mpg_checkSwitch 220 = .ok (.getfield 210, 3) := by decide +kernel
theorem d_Mpg_checkSwitch_223 : decode b_Mpg_checkSwitch 223 = .ok (.iload 5, 2) := by decide +kernel
theorem d_Mpg_checkSwitch_225 : decode b_Mpg_checkSwitch 225 = .ok (.iaload, 1) := by decide +kernel
theorem d_Mpg_checkSwitch_226 : decode b_Mpg_checkSwitch 226 = .ok (.invokevirtual 565, 3) := by decide +kernel
theorem d_Mpg_checkSwitch_229 : decode b_Mpg_checkSwitch 229 = .ok (.iconst 1, 1) := by decide +kernel
theorem d_Mpg_checkSwitch_230 : decode b_Mpg_checkSwitch 230 = .ok (.istore 4, 2) := by decide +kernel
theorem d_Mpg_checkSwitch_232 : decode b_Mpg_checkSwitch 232 = .ok (.goto 9, 3) := by decide +kernel
theorem d_Mpg_checkSwitch_235 : decode b_Mpg_checkSwitch 235 = .ok (.aload_n 0, 1) := by decide +kernel
theorem d_Mpg_checkSwitch_236 : decode b_Mpg_checkSwitch 236 = .ok (.iload 5, 2) := by decide +kernel
theorem d_Mpg_checkSwitch_238 : decode b_Mpg_checkSwitch 238 = .ok (.invokevirtual 636, 3) := by decide +kernel
theorem d_Mpg_checkSwitch_241 : decode b_Mpg_checkSwitch 241 = .ok (.aload_n 0, 1) := by decide +kernel
theorem d_Mpg_checkSwitch_242 : decode b_Mpg_checkSwitch 242 = .ok (.getfield 228, 3) := by decide +kernel
theorem d_Mpg_checkSwitch_245 : decode b_Mpg_checkSwitch 245 = .ok (.iload 5, 2) := by decide +kernel
theorem d_Mpg_checkSwitch_247 : decode b_Mpg_checkSwitch 247 = .ok (.iaload, 1) := by decide +kernel
theorem d_Mpg_checkSwitch_248 : decode b_Mpg_checkSwitch 248 = .ok (.istore 5, 2) := by decide +kernel
theorem d_Mpg_checkSwitch_250 : decode b_Mpg_checkSwitch 250 = .ok (.goto (-199), 3) := by decide +kernel
theorem d_Mpg_checkSwitch_253 : decode b_Mpg_checkSwitch 253 = .ok (.aload_n 0, 1) := by decide +kernel
theorem d_Mpg_checkSwitch_254 : decode b_Mpg_checkSwitch 254 = .ok (.dup, 1) := by decide +kernel
theorem d_Mpg_checkSwitch_255 : decode b_Mpg_checkSwitch 255 = .ok (.getfield 670, 3) := by decide +kernel
theorem d_Mpg_checkSwitch_258 : decode b_Mpg_checkSwitch 258 = .ok (.iconst 1, 1) := by decide +kernel
theorem d_Mpg_checkSwitch_259 : decode b_Mpg_checkSwitch 259 = .ok (.isub, 1) := by decide +kernel
theorem d_Mpg_checkSwitch_260 : decode b_Mpg_checkSwitch 260 = .ok (.putfield 670, 3) := by decide +kernel
theorem d_Mpg_checkSwitch_263 : decode b_Mpg_checkSwitch 263 = .ok (.aload_n 0, 1) := by decide +kernel
theorem d_Mpg_checkSwitch_264 : decode b_Mpg_checkSwitch 264 = .ok (.iload_n 2, 1) := by decide +kernel
theorem d_Mpg_checkSwitch_265 : decode b_Mpg_checkSwitch 265 = .ok (.iload_n 3, 1) := by decide +kernel
theorem d_Mpg_checkSwitch_266 : decode b_Mpg_checkSwitch 266 = .ok (.invokevirtual 642, 3) := by decide +kernel
theorem d_Mpg_checkSwitch_269 : decode b_Mpg_checkSwitch 269 = .ok (.return_, 1) := by decide +kernel
theorem q_Mpg_checkSwitch : px_y y_Mpg_checkSwitch 1 := by unfold px_y; decide +kernel
set_option maxHeartbeats 4000000 in
set_option maxRecDepth 100000 in
theorem c_mp_checkSwitch (l : Launch) (D : va_G) (cs : Nat → ClassId) (ma0 : Nat → Nat → Int32) (ys : Int) (nf : Int) (tx : Int) (d : Nat) (lo : Int) (hi : Int) (w : Int) (h : Nat) (r : Nat → Nat) (g : Nat → Nat → Option Nat) (tf : Nat → Int32) (ta : Nat → Nat → Int32) (pf : Nat → Int32) (na : Nat → Nat → Int32) (wa : Nat → Nat → Int32) (ef : Nat → Int32) (ea : Nat → Nat → Int32) (xf : Nat → Int32) (xa : Nat → Nat → Int32) (ma : Nat → Nat → Int32) (cf : Nat → Int32) (ca : Nat → Nat → Int32) (p0 : Int32)  (g0 : 0 ≤ lo) (g1 : hi ≤ (pf 13).toInt) (g2 : (pf 13).toInt ≤ 2100) (g3 : (tf 6).toInt ≤ 2049) (g4 : 0 ≤ (cf 33).toInt) (g5 : 0 ≤ w) (g6 : 6 * (cf 33).toInt + w ≤ 6540) (g7 : 0 ≤ (cf 48).toInt) (g8 : 6 * (cf 48).toInt + w ≤ 6540) (g9 : (cf 38).toInt = nf) (g10 : 0 ≤ nf) (g11 : 0 ≤ (cf 37).toInt) (g12 : 0 ≤ (cf 54).toInt) (g13 : (cf 54).toInt ≤ 4096 * (cf 48).toInt) (g14 : 0 ≤ (cf 42).toInt) (g15 : (cf 42).toInt ≤ 4 + 4096 * (cf 48).toInt) (g16 : 0 ≤ (cf 44).toInt) (g17 : 0 ≤ (cf 45).toInt) (g18 : ys ≤ (cf 48).toInt ∨ tx = 1) (g19 : 0 ≤ (cf 46).toInt) (g20 : (cf 46).toInt ≤ 1) (g21 : 0 ≤ (cf 47).toInt) (g22 : (cf 47).toInt ≤ 1) (g23 : (cf 44).toInt + (d : Int) ≤ 400) (g24 : (cf 45).toInt + (d : Int) ≤ 400) (g25 : 0 ≤ (cf 43).toInt) (g26 : (cf 43).toInt < 2100) (g27 : tx = 0) (g28 : (na 14 p0.toNatClampNeg).toInt = 28) (g29 : (cf 44).toInt + (d : Int) + 1 ≤ 400) (g30 : (cf 45).toInt + (d : Int) + 1 ≤ 400) (htk : TkI tf ta) (hfs : FsI (tf 6).toInt (pf 13).toInt na) (hwr : WrV cf (tf 6).toInt) (hkt : KnT (tf 6).toInt ca (cf 33).toInt) (hft : FnT (tf 6).toInt na ca (cf 38).toInt) (hks : KnS ca (cf 33).toInt (cf 48).toInt ys) (hfp : FnP na ca nf) (hsr : SyR ca ys (cf 48).toInt (cf 54).toInt tx) (han : Ann na ma0 ma) (htx : txo (cf 43).toInt = tx) (hsc : ScV ta (tf 6).toInt na ma0 (d + 1) lo hi w p0) (hLS : StC l D cs d) : MetV l y_Mpg_checkSwitch b_Mpg_checkSwitch 7 D cs (6 * d + 29) (260 * d + 1020) (0) (0) [.ref h, .int p0] [wdP cs h r g tf ta pf na ma wa cf ca ef ea xf xa] (oX (fun A U H => (oP A g U H)) [wdP cs h r g tf ta pf na ma wa cf ca ef ea xf xa]) (fun ps => ∃ (ma' : Nat → Nat → Int32) (cf' : Nat → Int32) (ca' : Nat → Nat → Int32), (ps = [wdP cs h r g tf ta pf na ma' wa cf' ca' ef ea xf xa]) ∧ ((cf' 30).toInt = 0 → (cf 30).toInt = 0) ∧ (WrV cf' (tf 6).toInt) ∧ ((cf' 37).toInt = (cf 37).toInt) ∧ ((cf' 38).toInt = (cf 38).toInt) ∧ ((cf' 43).toInt = (cf 43).toInt) ∧ ((cf' 44).toInt = (cf 44).toInt) ∧ ((cf' 45).toInt = (cf 45).toInt) ∧ ((cf' 46).toInt = (cf 46).toInt) ∧ ((cf' 47).toInt = (cf 47).toInt) ∧ ((cf' 41).toInt = (cf 41).toInt) ∧ ((cf' 55).toInt = (cf 55).toInt) ∧ ((cf' 59).toInt = (cf 59).toInt) ∧ ((cf' 33).toInt = (cf 33).toInt) ∧ ((cf 48).toInt ≤ (cf' 48).toInt) ∧ (6 * (cf' 48).toInt ≤ 6 * (cf 48).toInt + (w)) ∧ ((cf 54).toInt ≤ (cf' 54).toInt) ∧ ((cf 42).toInt ≤ (cf' 42).toInt) ∧ ((cf' 54).toInt - (cf 54).toInt ≤ 4 * ((cf' 42).toInt - (cf 42).toInt)) ∧ ((cf' 54).toInt - (cf 54).toInt ≤ 4096 * ((cf' 48).toInt - (cf 48).toInt)) ∧ ((cf' 42).toInt - (cf 42).toInt ≤ 4096 * ((cf' 48).toInt - (cf 48).toInt)) ∧ (KnT (tf 6).toInt ca' (cf' 33).toInt) ∧ (KnS ca' (cf' 33).toInt (cf' 48).toInt ys) ∧ (CaG ca ca' (cf 33).toInt (cf 48).toInt) ∧ (SyR ca' ys (cf' 48).toInt (cf' 54).toInt tx) ∧ (Ann na ma0 ma') ∧ (FrC lo hi ma ma') ∧ (ZTe cf' ta ca' na ma0 (cf' 48).toInt ys nf ma' lo hi p0 (tgv (cf 44).toInt (cf 45).toInt))) := by
  refine px_enter (by decide) (Nat.le_of_ble_eq_true rfl) ?_
  intro p e s m below meth c A ls hAe S hr hlk hnm hA hT hX hw hl
  have hl : lv_has ls 7 [(0, .ref h), (1, .int p0)] := hl
  have lp0 := Int32.le_toInt p0
  have up0 := Int32.toInt_lt p0
  have cst0 : (0 : Int32).toInt = 0 := rfl
  have cst1 : (1 : Int32).toInt = 1 := rfl
  have cst10 : (10 : Int32).toInt = 10 := rfl
  have cst29 : (29 : Int32).toInt = 29 := rfl
  have cst30 : (30 : Int32).toInt = 30 := rfl
  have hX : (fun A U H => (oP A g U H)) A s s.heap := by rw [hAe]; exact hX
  have hP := hX
  have hZ := hP.1
  have hF0 := hP.2.1
  have hfc : FrC lo hi ma ma := FrC.rf
  have hwr0 := hwr.1
  have hk11 := hkt.1
  have hf11 := hft.1
  have hcg : CaG ca ca (cf 33).toInt (cf 48).toInt := CaG.rf
  have hkt0 := hkt
  have hks0 := hks
  have hft0 := hft
  have hfp0 := hfp
  have hsr0 := ScV.rng hsc
  have hsc_p0 := hsc
  obtain ⟨m1, w1, w2, hm1, hm3, hea, hrsA, hws, hw1⟩ := ScV.s28 hsc (by omega) (z := na 17 p0.toNatClampNeg) (y := ma0 18 p0.toNatClampNeg) rfl rfl
  have hw2 := RvE.wp hrsA
  have J51 : ∀ (n_51 : Nat) (ma_51 : Nat → Nat → Int32) (cf_51 : Nat → Int32) (ca_51 : Nat → Nat → Int32) (mid_51 : Int) (wr_51 : Int) (cnt_51 : Int) (x51_2 x51_3 x51_4 x51_5 : Int32) (H : Heap) (locs : List Loc) (ls : Array Slot), ((cf_51 30).toInt = 0 → (cf 30).toInt = 0) → (WrV cf_51 (tf 6).toInt) → ((cf_51 38).toInt = (cf 38).toInt) → ((cf_51 43).toInt = (cf 43).toInt) → ((cf_51 44).toInt = (cf 44).toInt) → ((cf_51 46).toInt = (cf 46).toInt) → ((cf_51 47).toInt = (cf 47).toInt) → ((cf_51 41).toInt = (cf 41).toInt) → ((cf_51 55).toInt = (cf 55).toInt) → ((cf_51 59).toInt = (cf 59).toInt) → ((cf 33).toInt ≤ (cf_51 33).toInt) → (6 * (cf_51 33).toInt ≤ 6 * (cf 33).toInt + (w1 + (w2 - wr_51))) → ((cf 48).toInt ≤ (cf_51 48).toInt) → (6 * (cf_51 48).toInt ≤ 6 * (cf 48).toInt + (w1 + (w2 - wr_51))) → ((cf 54).toInt ≤ (cf_51 54).toInt) → ((cf 42).toInt ≤ (cf_51 42).toInt) → ((cf_51 54).toInt - (cf 54).toInt ≤ 4 * ((cf_51 42).toInt - (cf 42).toInt)) → ((cf_51 54).toInt - (cf 54).toInt ≤ 4096 * ((cf_51 48).toInt - (cf 48).toInt)) → ((cf_51 42).toInt - (cf 42).toInt ≤ 4096 * ((cf_51 48).toInt - (cf 48).toInt)) → (KnT (tf 6).toInt ca_51 (cf_51 33).toInt) → (KnS ca_51 (cf_51 33).toInt (cf_51 48).toInt ys) → (CaG ca ca_51 (cf 33).toInt (cf 48).toInt) → (SyR ca_51 ys (cf_51 48).toInt (cf_51 54).toInt tx) → (Ann na ma0 ma_51) → (FrC lo hi ma ma_51) → ((cf_51 37).toInt = (cf 33).toInt) → ((cf_51 45).toInt = (cf 45).toInt + 1) → (x51_2.toInt = (cf 33).toInt) → (x51_3.toInt = (cf 37).toInt) → (0 ≤ x51_4.toInt) → (x51_4.toInt ≤ 1) → (m1 ≤ mid_51) → (mid_51 ≤ hi) → (0 ≤ wr_51) → (wr_51 ≤ w2) → (0 ≤ cnt_51) → (ZTe cf_51 ta ca_51 na ma0 (cf_51 48).toInt ys nf ma_51 (p0.toInt + 1) m1 (na 17 p0.toNatClampNeg) 0) → (RvS ta (tf 6).toInt na ma0 d mid_51 hi wr_51 x51_5) → (RlD na (ma0 18 p0.toNatClampNeg) x51_5 cnt_51) → (ZTs cf_51 ta ca_51 na ma0 (cf_51 48).toInt ys nf ma_51 m1 mid_51 (ma0 18 p0.toNatClampNeg) x51_5 (if tgv (cf 44).toInt (cf 45).toInt = 4 then 4 else 3)) → hi - mid_51 < (n_51 : Int) → pw D A s.heap H locs [wdP cs h r g tf ta pf na ma_51 wa cf_51 ca_51 ef ea xf xa] → lv_has ls 7 [(0, .ref h), (1, .int p0), (2, .int x51_2), (3, .int x51_3), (4, .int x51_4), (5, .int x51_5)] → W p l e { frames := (6 * d + 29), cells := 0, slots := 0, locals := (260 * d + 1020) } s m [.ref h, .int p0].toArray below meth c H locs 0 0 (MQ below (va_Qv (fun ps => ∃ (ma' : Nat → Nat → Int32) (cf' : Nat → Int32) (ca' : Nat → Nat → Int32), (ps = [wdP cs h r g tf ta pf na ma' wa cf' ca' ef ea xf xa]) ∧ ((cf' 30).toInt = 0 → (cf 30).toInt = 0) ∧ (WrV cf' (tf 6).toInt) ∧ ((cf' 37).toInt = (cf 37).toInt) ∧ ((cf' 38).toInt = (cf 38).toInt) ∧ ((cf' 43).toInt = (cf 43).toInt) ∧ ((cf' 44).toInt = (cf 44).toInt) ∧ ((cf' 45).toInt = (cf 45).toInt) ∧ ((cf' 46).toInt = (cf 46).toInt) ∧ ((cf' 47).toInt = (cf 47).toInt) ∧ ((cf' 41).toInt = (cf 41).toInt) ∧ ((cf' 55).toInt = (cf 55).toInt) ∧ ((cf' 59).toInt = (cf 59).toInt) ∧ ((cf' 33).toInt = (cf 33).toInt) ∧ ((cf 48).toInt ≤ (cf' 48).toInt) ∧ (6 * (cf' 48).toInt ≤ 6 * (cf 48).toInt + (w)) ∧ ((cf 54).toInt ≤ (cf' 54).toInt) ∧ ((cf 42).toInt ≤ (cf' 42).toInt) ∧ ((cf' 54).toInt - (cf 54).toInt ≤ 4 * ((cf' 42).toInt - (cf 42).toInt)) ∧ ((cf' 54).toInt - (cf 54).toInt ≤ 4096 * ((cf' 48).toInt - (cf 48).toInt)) ∧ ((cf' 42).toInt - (cf 42).toInt ≤ 4096 * ((cf' 48).toInt - (cf 48).toInt)) ∧ (KnT (tf 6).toInt ca' (cf' 33).toInt) ∧ (KnS ca' (cf' 33).toInt (cf' 48).toInt ys) ∧ (CaG ca ca' (cf 33).toInt (cf 48).toInt) ∧ (SyR ca' ys (cf' 48).toInt (cf' 54).toInt tx) ∧ (Ann na ma0 ma') ∧ (FrC lo hi ma ma') ∧ (ZTe cf' ta ca' na ma0 (cf' 48).toInt ys nf ma' lo hi p0 (tgv (cf 44).toInt (cf 45).toInt))) (pc_B D (va_A ([wdP cs h r g tf ta pf na ma wa cf ca ef ea xf xa] : List va_W).flatten s.heap.size)) (va_A ([wdP cs h r g tf ta pf na ma wa cf ca ef ea xf xa] : List va_W).flatten s.heap.size)) [.ref h, .int p0].toArray s 0 0 A) (F0 m 51 ls []) := by
    intro  n_51
    induction n_51 with
    | zero =>
      intro ma_51 cf_51 ca_51 mid_51 wr_51 cnt_51 x51_2 x51_3 x51_4 x51_5 H locs ls k51_0 k51_1 k51_2 k51_3 k51_4 k51_5 k51_6 k51_7 k51_8 k51_9 k51_10 k51_11 k51_12 k51_13 k51_14 k51_15 k51_16 k51_17 k51_18 k51_19 k51_20 k51_21 k51_22 k51_23 k51_24 k51_25 k51_26 k51_27 k51_28 k51_29 k51_30 k51_31 k51_32 k51_33 k51_34 k51_35 k51_36 k51_37 k51_38 k51_39 hm hw hl
      have lx51_2 := Int32.le_toInt x51_2
      have ux51_2 := Int32.toInt_lt x51_2
      have lx51_3 := Int32.le_toInt x51_3
      have ux51_3 := Int32.toInt_lt x51_3
      have lx51_4 := Int32.le_toInt x51_4
      have ux51_4 := Int32.toInt_lt x51_4
      have lx51_5 := Int32.le_toInt x51_5
      have ux51_5 := Int32.toInt_lt x51_5
      have hwr := k51_1
      have hw0_k51_1 := hwr.1
      have hkt := k51_19
      have hk11_k51_19 := hkt.1
      have hks := k51_20
      have hcg := k51_21
      have hft := hft0.cg k51_21
      have hfp := hfp0.cg k51_21
      have hsr := k51_22
      have han := k51_23
      have hfc := k51_24
      have hka := k51_36
      have hrs := k51_37
      have hrd := k51_38
      have hzts := k51_39
      exact absurd hm (by omega)
    | succ n_51 ih51 =>
      intro ma_51 cf_51 ca_51 mid_51 wr_51 cnt_51 x51_2 x51_3 x51_4 x51_5 H locs ls k51_0 k51_1 k51_2 k51_3 k51_4 k51_5 k51_6 k51_7 k51_8 k51_9 k51_10 k51_11 k51_12 k51_13 k51_14 k51_15 k51_16 k51_17 k51_18 k51_19 k51_20 k51_21 k51_22 k51_23 k51_24 k51_25 k51_26 k51_27 k51_28 k51_29 k51_30 k51_31 k51_32 k51_33 k51_34 k51_35 k51_36 k51_37 k51_38 k51_39 hm hw hl
      have lx51_2 := Int32.le_toInt x51_2
      have ux51_2 := Int32.toInt_lt x51_2
      have lx51_3 := Int32.le_toInt x51_3
      have ux51_3 := Int32.toInt_lt x51_3
      have lx51_4 := Int32.le_toInt x51_4
      have ux51_4 := Int32.toInt_lt x51_4
      have lx51_5 := Int32.le_toInt x51_5
      have ux51_5 := Int32.toInt_lt x51_5
      have hwr := k51_1
      have hw0_k51_1 := hwr.1
      have hkt := k51_19
      have hk11_k51_19 := hkt.1
      have hks := k51_20
      have hcg := k51_21
      have hft := hft0.cg k51_21
      have hfp := hfp0.cg k51_21
      have hsr := k51_22
      have han := k51_23
      have hfc := k51_24
      have hka := k51_36
      have hrs := k51_37
      have hrd := k51_38
      have hzts := k51_39
      have J113 : ∀ (n_113 : Nat) (ma_113 : Nat → Nat → Int32) (cf_113 : Nat → Int32) (ca_113 : Nat → Nat → Int32) (mid_113 : Int) (wr_113 : Int) (cnt_113 : Int) (mdi_113 : Int) (wvi_113 : Int) (mm_113 : Int) (x113_2 x113_3 x113_4 x113_5 x113_6 : Int32) (H : Heap) (locs : List Loc) (ls : Array Slot), ((cf_113 30).toInt = 0 → (cf 30).toInt = 0) → (WrV cf_113 (tf 6).toInt) → ((cf_113 38).toInt = (cf 38).toInt) → ((cf_113 43).toInt = (cf 43).toInt) → ((cf_113 44).toInt = (cf 44).toInt) → ((cf_113 46).toInt = (cf 46).toInt) → ((cf_113 47).toInt = (cf 47).toInt) → ((cf_113 41).toInt = (cf 41).toInt) → ((cf_113 55).toInt = (cf 55).toInt) → ((cf_113 59).toInt = (cf 59).toInt) → ((cf 33).toInt ≤ (cf_113 33).toInt) → (6 * (cf_113 33).toInt ≤ 6 * (cf 33).toInt + (w1 + (w2 - wr_113))) → ((cf 48).toInt ≤ (cf_113 48).toInt) → (6 * (cf_113 48).toInt ≤ 6 * (cf 48).toInt + (w1 + (w2 - wr_113))) → ((cf 54).toInt ≤ (cf_113 54).toInt) → ((cf 42).toInt ≤ (cf_113 42).toInt) → ((cf_113 54).toInt - (cf 54).toInt ≤ 4 * ((cf_113 42).toInt - (cf 42).toInt)) → ((cf_113 54).toInt - (cf 54).toInt ≤ 4096 * ((cf_113 48).toInt - (cf 48).toInt)) → ((cf_113 42).toInt - (cf 42).toInt ≤ 4096 * ((cf_113 48).toInt - (cf 48).toInt)) → (KnT (tf 6).toInt ca_113 (cf_113 33).toInt) → (KnS ca_113 (cf_113 33).toInt (cf_113 48).toInt ys) → (CaG ca ca_113 (cf 33).toInt (cf 48).toInt) → (SyR ca_113 ys (cf_113 48).toInt (cf_113 54).toInt tx) → (Ann na ma0 ma_113) → (FrC lo hi ma ma_113) → ((cf_113 37).toInt = (cf 33).toInt) → ((cf_113 45).toInt = (cf 45).toInt + 1) → (x113_2.toInt = (cf 33).toInt) → (x113_3.toInt = (cf 37).toInt) → (0 ≤ x113_4.toInt) → (x113_4.toInt ≤ 1) → (m1 ≤ mid_113) → (mid_113 ≤ hi) → (0 ≤ wr_113) → (wr_113 ≤ w2) → (0 ≤ cnt_113) → (ZTe cf_113 ta ca_113 na ma0 (cf_113 48).toInt ys nf ma_113 (p0.toInt + 1) m1 (na 17 p0.toNatClampNeg) 0) → (mid_51 ≤ mid_113) → (0 ≤ x113_5.toInt) → (x113_5.toInt < mdi_113) → (mid_113 ≤ x113_5.toInt) → (mdi_113 ≤ hi) → (0 ≤ wvi_113) → (wvi_113 ≤ wr_113) → (0 ≤ mm_113) → ((na 14 x113_5.toNatClampNeg).toInt = 29) → (0 ≤ (na 15 x113_5.toNatClampNeg).toInt) → ((na 15 x113_5.toNatClampNeg).toInt < (tf 6).toInt) → (RvS ta (tf 6).toInt na ma0 d mdi_113 hi (wr_113 - wvi_113) (na 21 x113_5.toNatClampNeg)) → (RlD na (ma0 18 p0.toNatClampNeg) x113_5 cnt_113) → (RlE na x113_6 x113_5 mm_113) → (ZTs cf_113 ta ca_113 na ma0 (cf_113 48).toInt ys nf ma_113 m1 mid_113 (ma0 18 p0.toNatClampNeg) x113_5 (if tgv (cf 44).toInt (cf 45).toInt = 4 then 4 else 3)) → mm_113 < (n_113 : Int) → pw D A s.heap H locs [wdP cs h r g tf ta pf na ma_113 wa cf_113 ca_113 ef ea xf xa] → lv_has ls 7 [(0, .ref h), (1, .int p0), (2, .int x113_2), (3, .int x113_3), (4, .int x113_4), (5, .int x113_5), (6, .int x113_6)] → W p l e { frames := (6 * d + 29), cells := 0, slots := 0, locals := (260 * d + 1020) } s m [.ref h, .int p0].toArray below meth c H locs 0 0 (MQ below (va_Qv (fun ps => ∃ (ma' : Nat → Nat → Int32) (cf' : Nat → Int32) (ca' : Nat → Nat → Int32), (ps = [wdP cs h r g tf ta pf na ma' wa cf' ca' ef ea xf xa]) ∧ ((cf' 30).toInt = 0 → (cf 30).toInt = 0) ∧ (WrV cf' (tf 6).toInt) ∧ ((cf' 37).toInt = (cf 37).toInt) ∧ ((cf' 38).toInt = (cf 38).toInt) ∧ ((cf' 43).toInt = (cf 43).toInt) ∧ ((cf' 44).toInt = (cf 44).toInt) ∧ ((cf' 45).toInt = (cf 45).toInt) ∧ ((cf' 46).toInt = (cf 46).toInt) ∧ ((cf' 47).toInt = (cf 47).toInt) ∧ ((cf' 41).toInt = (cf 41).toInt) ∧ ((cf' 55).toInt = (cf 55).toInt) ∧ ((cf' 59).toInt = (cf 59).toInt) ∧ ((cf' 33).toInt = (cf 33).toInt) ∧ ((cf 48).toInt ≤ (cf' 48).toInt) ∧ (6 * (cf' 48).toInt ≤ 6 * (cf 48).toInt + (w)) ∧ ((cf 54).toInt ≤ (cf' 54).toInt) ∧ ((cf 42).toInt ≤ (cf' 42).toInt) ∧ ((cf' 54).toInt - (cf 54).toInt ≤ 4 * ((cf' 42).toInt - (cf 42).toInt)) ∧ ((cf' 54).toInt - (cf 54).toInt ≤ 4096 * ((cf' 48).toInt - (cf 48).toInt)) ∧ ((cf' 42).toInt - (cf 42).toInt ≤ 4096 * ((cf' 48).toInt - (cf 48).toInt)) ∧ (KnT (tf 6).toInt ca' (cf' 33).toInt) ∧ (KnS ca' (cf' 33).toInt (cf' 48).toInt ys) ∧ (CaG ca ca' (cf 33).toInt (cf 48).toInt) ∧ (SyR ca' ys (cf' 48).toInt (cf' 54).toInt tx) ∧ (Ann na ma0 ma') ∧ (FrC lo hi ma ma') ∧ (ZTe cf' ta ca' na ma0 (cf' 48).toInt ys nf ma' lo hi p0 (tgv (cf 44).toInt (cf 45).toInt))) (pc_B D (va_A ([wdP cs h r g tf ta pf na ma wa cf ca ef ea xf xa] : List va_W).flatten s.heap.size)) (va_A ([wdP cs h r g tf ta pf na ma wa cf ca ef ea xf xa] : List va_W).flatten s.heap.size)) [.ref h, .int p0].toArray s 0 0 A) (F0 m 113 ls []) := by
        intro  n_113
        induction n_113 with
        | zero =>
          intro ma_113 cf_113 ca_113 mid_113 wr_113 cnt_113 mdi_113 wvi_113 mm_113 x113_2 x113_3 x113_4 x113_5 x113_6 H locs ls k113_0 k113_1 k113_2 k113_3 k113_4 k113_5 k113_6 k113_7 k113_8 k113_9 k113_10 k113_11 k113_12 k113_13 k113_14 k113_15 k113_16 k113_17 k113_18 k113_19 k113_20 k113_21 k113_22 k113_23 k113_24 k113_25 k113_26 k113_27 k113_28 k113_29 k113_30 k113_31 k113_32 k113_33 k113_34 k113_35 k113_36 k113_37 k113_38 k113_39 k113_40 k113_41 k113_42 k113_43 k113_44 k113_45 k113_46 k113_47 k113_48 k113_49 k113_50 k113_51 hm hw hl
          have lx113_2 := Int32.le_toInt x113_2
          have ux113_2 := Int32.toInt_lt x113_2
          have lx113_3 := Int32.le_toInt x113_3
          have ux113_3 := Int32.toInt_lt x113_3
          have lx113_4 := Int32.le_toInt x113_4
          have ux113_4 := Int32.toInt_lt x113_4
          have lx113_5 := Int32.le_toInt x113_5
          have ux113_5 := Int32.toInt_lt x113_5
          have lx113_6 := Int32.le_toInt x113_6
          have ux113_6 := Int32.toInt_lt x113_6
          have hwr := k113_1
          have hw0_k113_1 := hwr.1
          have hkt := k113_19
          have hk11_k113_19 := hkt.1
          have hks := k113_20
          have hcg := k113_21
          have hft := hft0.cg k113_21
          have hfp := hfp0.cg k113_21
          have hsr := k113_22
          have han := k113_23
          have hfc := k113_24
          have hka := k113_36
          have hrs := k113_48
          have hrd := k113_49
          have hre := k113_50
          have hzts := k113_51
          exact absurd hm (by omega)
        | succ n_113 ih113 =>
          intro ma_113 cf_113 ca_113 mid_113 wr_113 cnt_113 mdi_113 wvi_113 mm_113 x113_2 x113_3 x113_4 x113_5 x113_6 H locs ls k113_0 k113_1 k113_2 k113_3 k113_4 k113_5 k113_6 k113_7 k113_8 k113_9 k113_10 k113_11 k113_12 k113_13 k113_14 k113_15 k113_16 k113_17 k113_18 k113_19 k113_20 k113_21 k113_22 k113_23 k113_24 k113_25 k113_26 k113_27 k113_28 k113_29 k113_30 k113_31 k113_32 k113_33 k113_34 k113_35 k113_36 k113_37 k113_38 k113_39 k113_40 k113_41 k113_42 k113_43 k113_44 k113_45 k113_46 k113_47 k113_48 k113_49 k113_50 k113_51 hm hw hl
          have lx113_2 := Int32.le_toInt x113_2
          have ux113_2 := Int32.toInt_lt x113_2
          have lx113_3 := Int32.le_toInt x113_3
          have ux113_3 := Int32.toInt_lt x113_3
          have lx113_4 := Int32.le_toInt x113_4
          have ux113_4 := Int32.toInt_lt x113_4
          have lx113_5 := Int32.le_toInt x113_5
          have ux113_5 := Int32.toInt_lt x113_5
          have lx113_6 := Int32.le_toInt x113_6
          have ux113_6 := Int32.toInt_lt x113_6
          have hwr := k113_1
          have hw0_k113_1 := hwr.1
          have hkt := k113_19
          have hk11_k113_19 := hkt.1
          have hks := k113_20
          have hcg := k113_21
          have hft := hft0.cg k113_21
          have hfp := hfp0.cg k113_21
          have hsr := k113_22
          have han := k113_23
          have hfc := k113_24
          have hka := k113_36
          have hrs := k113_48
          have hrd := k113_49
          have hre := k113_50
          have hzts := k113_51
          refine lv_iload S.x S.b d_Mpg_checkSwitch_113 (lv_at hl 6 rfl) ?_
          refine lv_iload S.x S.b d_Mpg_checkSwitch_115 (lv_at hl 5 rfl) ?_
          refine lv_icmp_eq (tgt := 196) S.x S.b d_Mpg_checkSwitch_117 (by decide) (fun c1 => ?_) (fun c1 => ?_)
          · have nc1 : x113_6.toInt = x113_5.toInt := (i_eq (x := x113_6) (y := x113_5)).mp c1
            refine lv_goto (tgt := 241) S.x S.b d_Mpg_checkSwitch_196 (by decide) ?_
            refine lv_aload_n S.x S.b d_Mpg_checkSwitch_241 rfl (lv_at hl 0 rfl) ?_
            refine px_get S k_Mpg hT hw 0 0 21 (v := .ref (r 21)) rfl rfl rfl (by decide) m10_7 d_Mpg_checkSwitch_242 ?_
            refine lv_iload S.x S.b d_Mpg_checkSwitch_245 (lv_at hl 5 rfl) ?_
            refine px_iald S hT hw 0 17 (n := 2100) (f := (na 21)) rfl gp_21 (x := x113_5) (vp_in_iff.mpr (by constructor <;> omega)) d_Mpg_checkSwitch_247 ?_
            refine lv_topi (fun z2 ez2 => ?_)
            have lz2 := Int32.le_toInt z2
            have uz2 := Int32.toInt_lt z2
            refine lv_istore (lv' := [(5, .int z2), (0, .ref h), (1, .int p0), (2, .int x113_2), (3, .int x113_3), (4, .int x113_4), (6, .int x113_6)]) S.x S.b d_Mpg_checkSwitch_248 hl (by decide) rfl (fun ls hl => ?_)
            refine lv_goto (tgt := 51) S.x S.b d_Mpg_checkSwitch_250 (by decide) ?_
            exact ih51 ma_113 cf_113 ca_113 mdi_113 (wr_113 - wvi_113) (cnt_113 + 1) x113_2 x113_3 x113_4 z2 _ _ ls (show (cf_113 30).toInt = 0 → (cf 30).toInt = 0 from by omega) (show WrV cf_113 (tf 6).toInt from hwr) (show (cf_113 38).toInt = (cf 38).toInt from by omega) (show (cf_113 43).toInt = (cf 43).toInt from by omega) (show (cf_113 44).toInt = (cf 44).toInt from by omega) (show (cf_113 46).toInt = (cf 46).toInt from by omega) (show (cf_113 47).toInt = (cf 47).toInt from by omega) (show (cf_113 41).toInt = (cf 41).toInt from by omega) (show (cf_113 55).toInt = (cf 55).toInt from by omega) (show (cf_113 59).toInt = (cf 59).toInt from by omega) (show (cf 33).toInt ≤ (cf_113 33).toInt from by omega) (show 6 * (cf_113 33).toInt ≤ 6 * (cf 33).toInt + (w1 + (w2 - (wr_113 - wvi_113))) from by omega) (show (cf 48).toInt ≤ (cf_113 48).toInt from by omega) (show 6 * (cf_113 48).toInt ≤ 6 * (cf 48).toInt + (w1 + (w2 - (wr_113 - wvi_113))) from by omega) (show (cf 54).toInt ≤ (cf_113 54).toInt from by omega) (show (cf 42).toInt ≤ (cf_113 42).toInt from by omega) (show (cf_113 54).toInt - (cf 54).toInt ≤ 4 * ((cf_113 42).toInt - (cf 42).toInt) from by omega) (show (cf_113 54).toInt - (cf 54).toInt ≤ 4096 * ((cf_113 48).toInt - (cf 48).toInt) from by omega) (show (cf_113 42).toInt - (cf 42).toInt ≤ 4096 * ((cf_113 48).toInt - (cf 48).toInt) from by omega) (show KnT (tf 6).toInt ca_113 (cf_113 33).toInt from (KnT.eq hkt (by omega))) (show KnS ca_113 (cf_113 33).toInt (cf_113 48).toInt ys from (KnS.eq hks (by omega) (by omega))) (show CaG ca ca_113 (cf 33).toInt (cf 48).toInt from (hcg.le (by omega) (by omega))) (show SyR ca_113 ys (cf_113 48).toInt (cf_113 54).toInt tx from (SyR.eq hsr (by omega) (by omega))) (show Ann na ma0 ma_113 from han) (show FrC lo hi ma ma_113 from hfc) (show (cf_113 37).toInt = (cf 33).toInt from by omega) (show (cf_113 45).toInt = (cf 45).toInt + 1 from by omega) (show x113_2.toInt = (cf 33).toInt from by omega) (show x113_3.toInt = (cf 37).toInt from by omega) (show 0 ≤ x113_4.toInt from by omega) (show x113_4.toInt ≤ 1 from by omega) (show m1 ≤ mdi_113 from by omega) (show mdi_113 ≤ hi from by omega) (show 0 ≤ (wr_113 - wvi_113) from by omega) (show (wr_113 - wvi_113) ≤ w2 from by omega) (show 0 ≤ (cnt_113 + 1) from by omega) (show ZTe cf_113 ta ca_113 na ma0 (cf_113 48).toInt ys nf ma_113 (p0.toInt + 1) m1 (na 17 p0.toNatClampNeg) 0 from (ZTe.to hka (fun q => by omega) (by omega) (Int.le_refl _) (Int.le_refl _) rfl)) (show RvS ta (tf 6).toInt na ma0 d mdi_113 hi (wr_113 - wvi_113) z2 from (by rw [ez2]; exact hrs)) (show RlD na (ma0 18 p0.toNatClampNeg) z2 (cnt_113 + 1) from (RlD.nx hrd (by omega) (by omega) (by omega) ez2 (by omega))) (show ZTs cf_113 ta ca_113 na ma0 (cf_113 48).toInt ys nf ma_113 m1 mdi_113 (ma0 18 p0.toNatClampNeg) z2 (if tgv (cf 44).toInt (cf 45).toInt = 4 then 4 else 3) from (ZTs.nx (ZTs.to hzts (fun q => by omega) (by omega) (Int.le_refl _) (by omega) rfl) (show ZTe cf_113 ta ca_113 na ma0 (cf_113 48).toInt ys nf ma_113 m1 mdi_113 x113_5 (if tgv (cf 44).toInt (cf 45).toInt = 4 then 4 else 3) from fun zz => tys_0 ⟨by omega, by omega, by omega⟩ tsw_rng (by omega)) (by omega) ez2)) (show hi - mdi_113 < (n_51 : Int) from by omega) hw (lv_sub hl [1, 2, 3, 4, 5, 0] rfl)
          · have nc1 : ¬ x113_6.toInt = x113_5.toInt := mt (i_eq (x := x113_6) (y := x113_5)).mpr c1
            refine lv_aload_n S.x S.b d_Mpg_checkSwitch_120 rfl (lv_at hl 0 rfl) ?_
            obtain ⟨hg1, hg2, hg3, hg4⟩ := RlD.go hre (by omega) (by omega)
            refine px_get S k_Mpg hT hw 0 0 14 (v := .ref (r 14)) rfl rfl rfl (by decide) m9_238 d_Mpg_checkSwitch_121 ?_
            refine lv_iload S.x S.b d_Mpg_checkSwitch_124 (lv_at hl 6 rfl) ?_
            refine px_bald S hT hw 0 10 (n := 2100) (f := (na 14)) rfl gp_14 (x := x113_6) (vp_in_iff.mpr (by constructor <;> omega)) d_Mpg_checkSwitch_126 ?_
            refine lv_topi (fun z3 ez3 => ?_)
            have lz3 := Int32.le_toInt z3
            have uz3 := Int32.toInt_lt z3
            have rz3 : z3.toInt = (na 14 x113_6.toNatClampNeg).toInt := (by rw [ez3])
            refine lv_bipush (v := 29) S.x S.b d_Mpg_checkSwitch_127 (by decide) ?_
            refine lv_icmp_ne (tgt := 184) S.x S.b d_Mpg_checkSwitch_129 (by decide) (fun c4 => ?_) (fun c4 => ?_)
            · have nc4 : ¬ z3.toInt = (29 : Int) := mt (i_eq (x := z3) (y := 29)).mpr c4
              refine lv_aload_n S.x S.b d_Mpg_checkSwitch_184 rfl (lv_at hl 0 rfl) ?_
              refine px_get S k_Mpg hT hw 0 0 21 (v := .ref (r 21)) rfl rfl rfl (by decide) m10_7 d_Mpg_checkSwitch_185 ?_
              refine lv_iload S.x S.b d_Mpg_checkSwitch_188 (lv_at hl 6 rfl) ?_
              refine px_iald S hT hw 0 17 (n := 2100) (f := (na 21)) rfl gp_21 (x := x113_6) (vp_in_iff.mpr (by constructor <;> omega)) d_Mpg_checkSwitch_190 ?_
              refine lv_topi (fun z5 ez5 => ?_)
              have lz5 := Int32.le_toInt z5
              have uz5 := Int32.toInt_lt z5
              refine lv_istore (lv' := [(6, .int z5), (0, .ref h), (1, .int p0), (2, .int x113_2), (3, .int x113_3), (4, .int x113_4), (5, .int x113_5)]) S.x S.b d_Mpg_checkSwitch_191 hl (by decide) rfl (fun ls hl => ?_)
              refine lv_goto (tgt := 113) S.x S.b d_Mpg_checkSwitch_193 (by decide) ?_
              exact ih113 ma_113 cf_113 ca_113 mid_113 wr_113 cnt_113 mdi_113 wvi_113 (mm_113 - 1) x113_2 x113_3 x113_4 x113_5 z5 _ _ ls (show (cf_113 30).toInt = 0 → (cf 30).toInt = 0 from by omega) (show WrV cf_113 (tf 6).toInt from hwr) (show (cf_113 38).toInt = (cf 38).toInt from by omega) (show (cf_113 43).toInt = (cf 43).toInt from by omega) (show (cf_113 44).toInt = (cf 44).toInt from by omega) (show (cf_113 46).toInt = (cf 46).toInt from by omega) (show (cf_113 47).toInt = (cf 47).toInt from by omega) (show (cf_113 41).toInt = (cf 41).toInt from by omega) (show (cf_113 55).toInt = (cf 55).toInt from by omega) (show (cf_113 59).toInt = (cf 59).toInt from by omega) (show (cf 33).toInt ≤ (cf_113 33).toInt from by omega) (show 6 * (cf_113 33).toInt ≤ 6 * (cf 33).toInt + (w1 + (w2 - wr_113)) from by omega) (show (cf 48).toInt ≤ (cf_113 48).toInt from by omega) (show 6 * (cf_113 48).toInt ≤ 6 * (cf 48).toInt + (w1 + (w2 - wr_113)) from by omega) (show (cf 54).toInt ≤ (cf_113 54).toInt from by omega) (show (cf 42).toInt ≤ (cf_113 42).toInt from by omega) (show (cf_113 54).toInt - (cf 54).toInt ≤ 4 * ((cf_113 42).toInt - (cf 42).toInt) from by omega) (show (cf_113 54).toInt - (cf 54).toInt ≤ 4096 * ((cf_113 48).toInt - (cf 48).toInt) from by omega) (show (cf_113 42).toInt - (cf 42).toInt ≤ 4096 * ((cf_113 48).toInt - (cf 48).toInt) from by omega) (show KnT (tf 6).toInt ca_113 (cf_113 33).toInt from (KnT.eq hkt (by omega))) (show KnS ca_113 (cf_113 33).toInt (cf_113 48).toInt ys from (KnS.eq hks (by omega) (by omega))) (show CaG ca ca_113 (cf 33).toInt (cf 48).toInt from (hcg.le (by omega) (by omega))) (show SyR ca_113 ys (cf_113 48).toInt (cf_113 54).toInt tx from (SyR.eq hsr (by omega) (by omega))) (show Ann na ma0 ma_113 from han) (show FrC lo hi ma ma_113 from hfc) (show (cf_113 37).toInt = (cf 33).toInt from by omega) (show (cf_113 45).toInt = (cf 45).toInt + 1 from by omega) (show x113_2.toInt = (cf 33).toInt from by omega) (show x113_3.toInt = (cf 37).toInt from by omega) (show 0 ≤ x113_4.toInt from by omega) (show x113_4.toInt ≤ 1 from by omega) (show m1 ≤ mid_113 from by omega) (show mid_113 ≤ hi from by omega) (show 0 ≤ wr_113 from by omega) (show wr_113 ≤ w2 from by omega) (show 0 ≤ cnt_113 from by omega) (show ZTe cf_113 ta ca_113 na ma0 (cf_113 48).toInt ys nf ma_113 (p0.toInt + 1) m1 (na 17 p0.toNatClampNeg) 0 from (ZTe.to hka (fun q => by omega) (by omega) (Int.le_refl _) (Int.le_refl _) rfl)) (show mid_51 ≤ mid_113 from by omega) (show 0 ≤ x113_5.toInt from by omega) (show x113_5.toInt < mdi_113 from by omega) (show mid_113 ≤ x113_5.toInt from by omega) (show mdi_113 ≤ hi from by omega) (show 0 ≤ wvi_113 from by omega) (show wvi_113 ≤ wr_113 from by omega) (show 0 ≤ (mm_113 - 1) from by omega) (show (na 14 x113_5.toNatClampNeg).toInt = 29 from by omega) (show 0 ≤ (na 15 x113_5.toNatClampNeg).toInt from by omega) (show (na 15 x113_5.toNatClampNeg).toInt < (tf 6).toInt from by omega) (show RvS ta (tf 6).toInt na ma0 d mdi_113 hi (wr_113 - wvi_113) (na 21 x113_5.toNatClampNeg) from hrs) (show RlD na (ma0 18 p0.toNatClampNeg) x113_5 cnt_113 from hrd) (show RlE na z5 x113_5 (mm_113 - 1) from (by rw [ez5]; exact hg4)) (show ZTs cf_113 ta ca_113 na ma0 (cf_113 48).toInt ys nf ma_113 m1 mid_113 (ma0 18 p0.toNatClampNeg) x113_5 (if tgv (cf 44).toInt (cf 45).toInt = 4 then 4 else 3) from (ZTs.to hzts (fun q => by omega) (by omega) (Int.le_refl _) (Int.le_refl _) rfl)) (show (mm_113 - 1) < (n_113 : Int) from by omega) hw (lv_sub hl [1, 2, 3, 4, 5, 6, 0] rfl)
            · have nc4 : z3.toInt = (29 : Int) := (i_eq (x := z3) (y := 29)).mp c4
              refine lv_aload_n S.x S.b d_Mpg_checkSwitch_132 rfl (lv_at hl 0 rfl) ?_
              refine px_get S k_Mpg hT hw 0 0 22 (v := .ref (r 22)) rfl rfl rfl (by decide) m10_9 d_Mpg_checkSwitch_133 ?_
              refine lv_iload S.x S.b d_Mpg_checkSwitch_136 (lv_at hl 6 rfl) ?_
              refine px_iald S hT hw 0 18 (n := 2100) (f := (ma_113 22)) rfl gp_22 (x := x113_6) (vp_in_iff.mpr (by constructor <;> omega)) d_Mpg_checkSwitch_138 ?_
              refine lv_topi (fun z6 ez6 => ?_)
              have lz6 := Int32.le_toInt z6
              have uz6 := Int32.toInt_lt z6
              refine lv_iconst (v := 1) S.x S.b d_Mpg_checkSwitch_139 (by decide) ?_
              refine lv_icmp_ne (tgt := 184) S.x S.b d_Mpg_checkSwitch_140 (by decide) (fun c7 => ?_) (fun c7 => ?_)
              · have nc7 : ¬ z6.toInt = (1 : Int) := mt (i_eq (x := z6) (y := 1)).mpr c7
                refine lv_aload_n S.x S.b d_Mpg_checkSwitch_184 rfl (lv_at hl 0 rfl) ?_
                refine px_get S k_Mpg hT hw 0 0 21 (v := .ref (r 21)) rfl rfl rfl (by decide) m10_7 d_Mpg_checkSwitch_185 ?_
                refine lv_iload S.x S.b d_Mpg_checkSwitch_188 (lv_at hl 6 rfl) ?_
                refine px_iald S hT hw 0 17 (n := 2100) (f := (na 21)) rfl gp_21 (x := x113_6) (vp_in_iff.mpr (by constructor <;> omega)) d_Mpg_checkSwitch_190 ?_
                refine lv_topi (fun z8 ez8 => ?_)
                have lz8 := Int32.le_toInt z8
                have uz8 := Int32.toInt_lt z8
                refine lv_istore (lv' := [(6, .int z8), (0, .ref h), (1, .int p0), (2, .int x113_2), (3, .int x113_3), (4, .int x113_4), (5, .int x113_5)]) S.x S.b d_Mpg_checkSwitch_191 hl (by decide) rfl (fun ls hl => ?_)
                refine lv_goto (tgt := 113) S.x S.b d_Mpg_checkSwitch_193 (by decide) ?_
                exact ih113 ma_113 cf_113 ca_113 mid_113 wr_113 cnt_113 mdi_113 wvi_113 (mm_113 - 1) x113_2 x113_3 x113_4 x113_5 z8 _ _ ls (show (cf_113 30).toInt = 0 → (cf 30).toInt = 0 from by omega) (show WrV cf_113 (tf 6).toInt from hwr) (show (cf_113 38).toInt = (cf 38).toInt from by omega) (show (cf_113 43).toInt = (cf 43).toInt from by omega) (show (cf_113 44).toInt = (cf 44).toInt from by omega) (show (cf_113 46).toInt = (cf 46).toInt from by omega) (show (cf_113 47).toInt = (cf 47).toInt from by omega) (show (cf_113 41).toInt = (cf 41).toInt from by omega) (show (cf_113 55).toInt = (cf 55).toInt from by omega) (show (cf_113 59).toInt = (cf 59).toInt from by omega) (show (cf 33).toInt ≤ (cf_113 33).toInt from by omega) (show 6 * (cf_113 33).toInt ≤ 6 * (cf 33).toInt + (w1 + (w2 - wr_113)) from by omega) (show (cf 48).toInt ≤ (cf_113 48).toInt from by omega) (show 6 * (cf_113 48).toInt ≤ 6 * (cf 48).toInt + (w1 + (w2 - wr_113)) from by omega) (show (cf 54).toInt ≤ (cf_113 54).toInt from by omega) (show (cf 42).toInt ≤ (cf_113 42).toInt from by omega) (show (cf_113 54).toInt - (cf 54).toInt ≤ 4 * ((cf_113 42).toInt - (cf 42).toInt) from by omega) (show (cf_113 54).toInt - (cf 54).toInt ≤ 4096 * ((cf_113 48).toInt - (cf 48).toInt) from by omega) (show (cf_113 42).toInt - (cf 42).toInt ≤ 4096 * ((cf_113 48).toInt - (cf 48).toInt) from by omega) (show KnT (tf 6).toInt ca_113 (cf_113 33).toInt from (KnT.eq hkt (by omega))) (show KnS ca_113 (cf_113 33).toInt (cf_113 48).toInt ys from (KnS.eq hks (by omega) (by omega))) (show CaG ca ca_113 (cf 33).toInt (cf 48).toInt from (hcg.le (by omega) (by omega))) (show SyR ca_113 ys (cf_113 48).toInt (cf_113 54).toInt tx from (SyR.eq hsr (by omega) (by omega))) (show Ann na ma0 ma_113 from han) (show FrC lo hi ma ma_113 from hfc) (show (cf_113 37).toInt = (cf 33).toInt from by omega) (show (cf_113 45).toInt = (cf 45).toInt + 1 from by omega) (show x113_2.toInt = (cf 33).toInt from by omega) (show x113_3.toInt = (cf 37).toInt from by omega) (show 0 ≤ x113_4.toInt from by omega) (show x113_4.toInt ≤ 1 from by omega) (show m1 ≤ mid_113 from by omega) (show mid_113 ≤ hi from by omega) (show 0 ≤ wr_113 from by omega) (show wr_113 ≤ w2 from by omega) (show 0 ≤ cnt_113 from by omega) (show ZTe cf_113 ta ca_113 na ma0 (cf_113 48).toInt ys nf ma_113 (p0.toInt + 1) m1 (na 17 p0.toNatClampNeg) 0 from (ZTe.to hka (fun q => by omega) (by omega) (Int.le_refl _) (Int.le_refl _) rfl)) (show mid_51 ≤ mid_113 from by omega) (show 0 ≤ x113_5.toInt from by omega) (show x113_5.toInt < mdi_113 from by omega) (show mid_113 ≤ x113_5.toInt from by omega) (show mdi_113 ≤ hi from by omega) (show 0 ≤ wvi_113 from by omega) (show wvi_113 ≤ wr_113 from by omega) (show 0 ≤ (mm_113 - 1) from by omega) (show (na 14 x113_5.toNatClampNeg).toInt = 29 from by omega) (show 0 ≤ (na 15 x113_5.toNatClampNeg).toInt from by omega) (show (na 15 x113_5.toNatClampNeg).toInt < (tf 6).toInt from by omega) (show RvS ta (tf 6).toInt na ma0 d mdi_113 hi (wr_113 - wvi_113) (na 21 x113_5.toNatClampNeg) from hrs) (show RlD na (ma0 18 p0.toNatClampNeg) x113_5 cnt_113 from hrd) (show RlE na z8 x113_5 (mm_113 - 1) from (by rw [ez8]; exact hg4)) (show ZTs cf_113 ta ca_113 na ma0 (cf_113 48).toInt ys nf ma_113 m1 mid_113 (ma0 18 p0.toNatClampNeg) x113_5 (if tgv (cf 44).toInt (cf 45).toInt = 4 then 4 else 3) from (ZTs.to hzts (fun q => by omega) (by omega) (Int.le_refl _) (Int.le_refl _) rfl)) (show (mm_113 - 1) < (n_113 : Int) from by omega) hw (lv_sub hl [1, 2, 3, 4, 5, 6, 0] rfl)
              · have nc7 : z6.toInt = (1 : Int) := (i_eq (x := z6) (y := 1)).mp c7
                refine lv_aload_n S.x S.b d_Mpg_checkSwitch_143 rfl (lv_at hl 0 rfl) ?_
                refine px_get S k_Mpg hT hw 0 0 22 (v := .ref (r 22)) rfl rfl rfl (by decide) m10_9 d_Mpg_checkSwitch_144 ?_
                refine lv_iload S.x S.b d_Mpg_checkSwitch_147 (lv_at hl 5 rfl) ?_
                refine px_iald S hT hw 0 18 (n := 2100) (f := (ma_113 22)) rfl gp_22 (x := x113_5) (vp_in_iff.mpr (by constructor <;> omega)) d_Mpg_checkSwitch_149 ?_
                refine lv_topi (fun z9 ez9 => ?_)
                have lz9 := Int32.le_toInt z9
                have uz9 := Int32.toInt_lt z9
                refine lv_iconst (v := 1) S.x S.b d_Mpg_checkSwitch_150 (by decide) ?_
                refine lv_icmp_ne (tgt := 184) S.x S.b d_Mpg_checkSwitch_151 (by decide) (fun c10 => ?_) (fun c10 => ?_)
                · have nc10 : ¬ z9.toInt = (1 : Int) := mt (i_eq (x := z9) (y := 1)).mpr c10
                  refine lv_aload_n S.x S.b d_Mpg_checkSwitch_184 rfl (lv_at hl 0 rfl) ?_
                  refine px_get S k_Mpg hT hw 0 0 21 (v := .ref (r 21)) rfl rfl rfl (by decide) m10_7 d_Mpg_checkSwitch_185 ?_
                  refine lv_iload S.x S.b d_Mpg_checkSwitch_188 (lv_at hl 6 rfl) ?_
                  refine px_iald S hT hw 0 17 (n := 2100) (f := (na 21)) rfl gp_21 (x := x113_6) (vp_in_iff.mpr (by constructor <;> omega)) d_Mpg_checkSwitch_190 ?_
                  refine lv_topi (fun z11 ez11 => ?_)
                  have lz11 := Int32.le_toInt z11
                  have uz11 := Int32.toInt_lt z11
                  refine lv_istore (lv' := [(6, .int z11), (0, .ref h), (1, .int p0), (2, .int x113_2), (3, .int x113_3), (4, .int x113_4), (5, .int x113_5)]) S.x S.b d_Mpg_checkSwitch_191 hl (by decide) rfl (fun ls hl => ?_)
                  refine lv_goto (tgt := 113) S.x S.b d_Mpg_checkSwitch_193 (by decide) ?_
                  exact ih113 ma_113 cf_113 ca_113 mid_113 wr_113 cnt_113 mdi_113 wvi_113 (mm_113 - 1) x113_2 x113_3 x113_4 x113_5 z11 _ _ ls (show (cf_113 30).toInt = 0 → (cf 30).toInt = 0 from by omega) (show WrV cf_113 (tf 6).toInt from hwr) (show (cf_113 38).toInt = (cf 38).toInt from by omega) (show (cf_113 43).toInt = (cf 43).toInt from by omega) (show (cf_113 44).toInt = (cf 44).toInt from by omega) (show (cf_113 46).toInt = (cf 46).toInt from by omega) (show (cf_113 47).toInt = (cf 47).toInt from by omega) (show (cf_113 41).toInt = (cf 41).toInt from by omega) (show (cf_113 55).toInt = (cf 55).toInt from by omega) (show (cf_113 59).toInt = (cf 59).toInt from by omega) (show (cf 33).toInt ≤ (cf_113 33).toInt from by omega) (show 6 * (cf_113 33).toInt ≤ 6 * (cf 33).toInt + (w1 + (w2 - wr_113)) from by omega) (show (cf 48).toInt ≤ (cf_113 48).toInt from by omega) (show 6 * (cf_113 48).toInt ≤ 6 * (cf 48).toInt + (w1 + (w2 - wr_113)) from by omega) (show (cf 54).toInt ≤ (cf_113 54).toInt from by omega) (show (cf 42).toInt ≤ (cf_113 42).toInt from by omega) (show (cf_113 54).toInt - (cf 54).toInt ≤ 4 * ((cf_113 42).toInt - (cf 42).toInt) from by omega) (show (cf_113 54).toInt - (cf 54).toInt ≤ 4096 * ((cf_113 48).toInt - (cf 48).toInt) from by omega) (show (cf_113 42).toInt - (cf 42).toInt ≤ 4096 * ((cf_113 48).toInt - (cf 48).toInt) from by omega) (show KnT (tf 6).toInt ca_113 (cf_113 33).toInt from (KnT.eq hkt (by omega))) (show KnS ca_113 (cf_113 33).toInt (cf_113 48).toInt ys from (KnS.eq hks (by omega) (by omega))) (show CaG ca ca_113 (cf 33).toInt (cf 48).toInt from (hcg.le (by omega) (by omega))) (show SyR ca_113 ys (cf_113 48).toInt (cf_113 54).toInt tx from (SyR.eq hsr (by omega) (by omega))) (show Ann na ma0 ma_113 from han) (show FrC lo hi ma ma_113 from hfc) (show (cf_113 37).toInt = (cf 33).toInt from by omega) (show (cf_113 45).toInt = (cf 45).toInt + 1 from by omega) (show x113_2.toInt = (cf 33).toInt from by omega) (show x113_3.toInt = (cf 37).toInt from by omega) (show 0 ≤ x113_4.toInt from by omega) (show x113_4.toInt ≤ 1 from by omega) (show m1 ≤ mid_113 from by omega) (show mid_113 ≤ hi from by omega) (show 0 ≤ wr_113 from by omega) (show wr_113 ≤ w2 from by omega) (show 0 ≤ cnt_113 from by omega) (show ZTe cf_113 ta ca_113 na ma0 (cf_113 48).toInt ys nf ma_113 (p0.toInt + 1) m1 (na 17 p0.toNatClampNeg) 0 from (ZTe.to hka (fun q => by omega) (by omega) (Int.le_refl _) (Int.le_refl _) rfl)) (show mid_51 ≤ mid_113 from by omega) (show 0 ≤ x113_5.toInt from by omega) (show x113_5.toInt < mdi_113 from by omega) (show mid_113 ≤ x113_5.toInt from by omega) (show mdi_113 ≤ hi from by omega) (show 0 ≤ wvi_113 from by omega) (show wvi_113 ≤ wr_113 from by omega) (show 0 ≤ (mm_113 - 1) from by omega) (show (na 14 x113_5.toNatClampNeg).toInt = 29 from by omega) (show 0 ≤ (na 15 x113_5.toNatClampNeg).toInt from by omega) (show (na 15 x113_5.toNatClampNeg).toInt < (tf 6).toInt from by omega) (show RvS ta (tf 6).toInt na ma0 d mdi_113 hi (wr_113 - wvi_113) (na 21 x113_5.toNatClampNeg) from hrs) (show RlD na (ma0 18 p0.toNatClampNeg) x113_5 cnt_113 from hrd) (show RlE na z11 x113_5 (mm_113 - 1) from (by rw [ez11]; exact hg4)) (show ZTs cf_113 ta ca_113 na ma0 (cf_113 48).toInt ys nf ma_113 m1 mid_113 (ma0 18 p0.toNatClampNeg) x113_5 (if tgv (cf 44).toInt (cf 45).toInt = 4 then 4 else 3) from (ZTs.to hzts (fun q => by omega) (by omega) (Int.le_refl _) (Int.le_refl _) rfl)) (show (mm_113 - 1) < (n_113 : Int) from by omega) hw (lv_sub hl [1, 2, 3, 4, 5, 6, 0] rfl)
                · have nc10 : z9.toInt = (1 : Int) := (i_eq (x := z9) (y := 1)).mp c10
                  refine lv_aload_n S.x S.b d_Mpg_checkSwitch_154 rfl (lv_at hl 0 rfl) ?_
                  refine px_get S k_Mpg hT hw 0 0 18 (v := .ref (r 18)) rfl rfl rfl (by decide) m10_3 d_Mpg_checkSwitch_155 ?_
                  refine lv_iload S.x S.b d_Mpg_checkSwitch_158 (lv_at hl 6 rfl) ?_
                  refine px_iald S hT hw 0 14 (n := 2100) (f := (ma_113 18)) rfl gp_18 (x := x113_6) (vp_in_iff.mpr (by constructor <;> omega)) d_Mpg_checkSwitch_160 ?_
                  refine lv_topi (fun z12 ez12 => ?_)
                  have lz12 := Int32.le_toInt z12
                  have uz12 := Int32.toInt_lt z12
                  refine lv_aload_n S.x S.b d_Mpg_checkSwitch_161 rfl (lv_at hl 0 rfl) ?_
                  refine px_get S k_Mpg hT hw 0 0 18 (v := .ref (r 18)) rfl rfl rfl (by decide) m10_3 d_Mpg_checkSwitch_162 ?_
                  refine lv_iload S.x S.b d_Mpg_checkSwitch_165 (lv_at hl 5 rfl) ?_
                  refine px_iald S hT hw 0 14 (n := 2100) (f := (ma_113 18)) rfl gp_18 (x := x113_5) (vp_in_iff.mpr (by constructor <;> omega)) d_Mpg_checkSwitch_167 ?_
                  refine lv_topi (fun z13 ez13 => ?_)
                  have lz13 := Int32.le_toInt z13
                  have uz13 := Int32.toInt_lt z13
                  refine lv_icmp_ne (tgt := 184) S.x S.b d_Mpg_checkSwitch_168 (by decide) (fun c14 => ?_) (fun c14 => ?_)
                  · have nc14 : ¬ z12.toInt = z13.toInt := mt (i_eq (x := z12) (y := z13)).mpr c14
                    refine lv_aload_n S.x S.b d_Mpg_checkSwitch_184 rfl (lv_at hl 0 rfl) ?_
                    refine px_get S k_Mpg hT hw 0 0 21 (v := .ref (r 21)) rfl rfl rfl (by decide) m10_7 d_Mpg_checkSwitch_185 ?_
                    refine lv_iload S.x S.b d_Mpg_checkSwitch_188 (lv_at hl 6 rfl) ?_
                    refine px_iald S hT hw 0 17 (n := 2100) (f := (na 21)) rfl gp_21 (x := x113_6) (vp_in_iff.mpr (by constructor <;> omega)) d_Mpg_checkSwitch_190 ?_
                    refine lv_topi (fun z15 ez15 => ?_)
                    have lz15 := Int32.le_toInt z15
                    have uz15 := Int32.toInt_lt z15
                    refine lv_istore (lv' := [(6, .int z15), (0, .ref h), (1, .int p0), (2, .int x113_2), (3, .int x113_3), (4, .int x113_4), (5, .int x113_5)]) S.x S.b d_Mpg_checkSwitch_191 hl (by decide) rfl (fun ls hl => ?_)
                    refine lv_goto (tgt := 113) S.x S.b d_Mpg_checkSwitch_193 (by decide) ?_
                    exact ih113 ma_113 cf_113 ca_113 mid_113 wr_113 cnt_113 mdi_113 wvi_113 (mm_113 - 1) x113_2 x113_3 x113_4 x113_5 z15 _ _ ls (show (cf_113 30).toInt = 0 → (cf 30).toInt = 0 from by omega) (show WrV cf_113 (tf 6).toInt from hwr) (show (cf_113 38).toInt = (cf 38).toInt from by omega) (show (cf_113 43).toInt = (cf 43).toInt from by omega) (show (cf_113 44).toInt = (cf 44).toInt from by omega) (show (cf_113 46).toInt = (cf 46).toInt from by omega) (show (cf_113 47).toInt = (cf 47).toInt from by omega) (show (cf_113 41).toInt = (cf 41).toInt from by omega) (show (cf_113 55).toInt = (cf 55).toInt from by omega) (show (cf_113 59).toInt = (cf 59).toInt from by omega) (show (cf 33).toInt ≤ (cf_113 33).toInt from by omega) (show 6 * (cf_113 33).toInt ≤ 6 * (cf 33).toInt + (w1 + (w2 - wr_113)) from by omega) (show (cf 48).toInt ≤ (cf_113 48).toInt from by omega) (show 6 * (cf_113 48).toInt ≤ 6 * (cf 48).toInt + (w1 + (w2 - wr_113)) from by omega) (show (cf 54).toInt ≤ (cf_113 54).toInt from by omega) (show (cf 42).toInt ≤ (cf_113 42).toInt from by omega) (show (cf_113 54).toInt - (cf 54).toInt ≤ 4 * ((cf_113 42).toInt - (cf 42).toInt) from by omega) (show (cf_113 54).toInt - (cf 54).toInt ≤ 4096 * ((cf_113 48).toInt - (cf 48).toInt) from by omega) (show (cf_113 42).toInt - (cf 42).toInt ≤ 4096 * ((cf_113 48).toInt - (cf 48).toInt) from by omega) (show KnT (tf 6).toInt ca_113 (cf_113 33).toInt from (KnT.eq hkt (by omega))) (show KnS ca_113 (cf_113 33).toInt (cf_113 48).toInt ys from (KnS.eq hks (by omega) (by omega))) (show CaG ca ca_113 (cf 33).toInt (cf 48).toInt from (hcg.le (by omega) (by omega))) (show SyR ca_113 ys (cf_113 48).toInt (cf_113 54).toInt tx from (SyR.eq hsr (by omega) (by omega))) (show Ann na ma0 ma_113 from han) (show FrC lo hi ma ma_113 from hfc) (show (cf_113 37).toInt = (cf 33).toInt from by omega) (show (cf_113 45).toInt = (cf 45).toInt + 1 from by omega) (show x113_2.toInt = (cf 33).toInt from by omega) (show x113_3.toInt = (cf 37).toInt from by omega) (show 0 ≤ x113_4.toInt from by omega) (show x113_4.toInt ≤ 1 from by omega) (show m1 ≤ mid_113 from by omega) (show mid_113 ≤ hi from by omega) (show 0 ≤ wr_113 from by omega) (show wr_113 ≤ w2 from by omega) (show 0 ≤ cnt_113 from by omega) (show ZTe cf_113 ta ca_113 na ma0 (cf_113 48).toInt ys nf ma_113 (p0.toInt + 1) m1 (na 17 p0.toNatClampNeg) 0 from (ZTe.to hka (fun q => by omega) (by omega) (Int.le_refl _) (Int.le_refl _) rfl)) (show mid_51 ≤ mid_113 from by omega) (show 0 ≤ x113_5.toInt from by omega) (show x113_5.toInt < mdi_113 from by omega) (show mid_113 ≤ x113_5.toInt from by omega) (show mdi_113 ≤ hi from by omega) (show 0 ≤ wvi_113 from by omega) (show wvi_113 ≤ wr_113 from by omega) (show 0 ≤ (mm_113 - 1) from by omega) (show (na 14 x113_5.toNatClampNeg).toInt = 29 from by omega) (show 0 ≤ (na 15 x113_5.toNatClampNeg).toInt from by omega) (show (na 15 x113_5.toNatClampNeg).toInt < (tf 6).toInt from by omega) (show RvS ta (tf 6).toInt na ma0 d mdi_113 hi (wr_113 - wvi_113) (na 21 x113_5.toNatClampNeg) from hrs) (show RlD na (ma0 18 p0.toNatClampNeg) x113_5 cnt_113 from hrd) (show RlE na z15 x113_5 (mm_113 - 1) from (by rw [ez15]; exact hg4)) (show ZTs cf_113 ta ca_113 na ma0 (cf_113 48).toInt ys nf ma_113 m1 mid_113 (ma0 18 p0.toNatClampNeg) x113_5 (if tgv (cf 44).toInt (cf 45).toInt = 4 then 4 else 3) from (ZTs.to hzts (fun q => by omega) (by omega) (Int.le_refl _) (Int.le_refl _) rfl)) (show (mm_113 - 1) < (n_113 : Int) from by omega) hw (lv_sub hl [1, 2, 3, 4, 5, 6, 0] rfl)
                  · have nc14 : z12.toInt = z13.toInt := (i_eq (x := z12) (y := z13)).mp c14
                    refine lv_aload_n S.x S.b d_Mpg_checkSwitch_171 rfl (lv_at hl 0 rfl) ?_
                    refine lv_bipush (v := 10) S.x S.b d_Mpg_checkSwitch_172 (by decide) ?_
                    refine lv_aload_n S.x S.b d_Mpg_checkSwitch_174 rfl (lv_at hl 0 rfl) ?_
                    refine px_get S k_Mpg hT hw 0 0 15 (v := .ref (r 15)) rfl rfl rfl (by decide) m9_239 d_Mpg_checkSwitch_175 ?_
                    refine lv_iload S.x S.b d_Mpg_checkSwitch_178 (lv_at hl 5 rfl) ?_
                    refine px_iald S hT hw 0 11 (n := 2100) (f := (na 15)) rfl gp_15 (x := x113_5) (vp_in_iff.mpr (by constructor <;> omega)) d_Mpg_checkSwitch_180 ?_
                    refine lv_topi (fun z16 ez16 => ?_)
                    have lz16 := Int32.le_toInt z16
                    have uz16 := Int32.toInt_lt z16
                    have rz16 : z16.toInt = (na 15 x113_5.toNatClampNeg).toInt := by rw [ez16]
                    refine px_callv (pr := []) (px_runV (As := [.int 10, .int z16]) (rest := []) S (c_mp_bad l D cs h r g tf ta pf na ma_113 wa ca_113 ef ea xf xa cf_113 10 z16  (show 1 ≤ (10 : Int) from by omega) (show 0 ≤ z16.toInt from by omega) (show z16.toInt < (tf 6).toInt from by omega) htk hwr _) hT (pr := []) (pcs := [wdP cs h r g tf ta pf na ma_113 wa cf_113 ca_113 ef ea xf xa]) hw px_X.tt (px_recv hT hw 0 0 rfl rfl rfl) m12_173 m12_170 m12_172 ms_11_12 m1_21 q_Mpg_bad ⟨show 0 + 1 ≤ (6 * d + 29) from by omega, show 8 + (3 + 11) + 0 ≤ (260 * d + 1020) from by omega⟩ hl.1 rfl (Nat.le_of_ble_eq_true rfl) d_Mpg_checkSwitch_181 ⟨Nat.le_of_ble_eq_true rfl, Nat.le_of_ble_eq_true rfl⟩) hw hA (fun p19 H locs hp19 hw => ?_)
                    obtain ⟨cf18, rfl, e21, e22, e23, e24, e25, e26, e27, e28, e29, e30, e31, e32, e33, e34, e35, e36, e37, e38, e39⟩ := hp19
                    have e21 : KpE cf_113 cf18 := e21
                    have hkz_e21 := e21.2
                    have e22 : WrV cf18 (tf 6).toInt := e22
                    have hwr := e22
                    have hw0_e22 := hwr.1
                    have e23 : 1 ≤ (cf18 30).toInt := e23
                    have e24 : (cf18 33).toInt = (cf_113 33).toInt := e24
                    have e25 : (cf18 38).toInt = (cf_113 38).toInt := e25
                    have e26 : (cf18 48).toInt = (cf_113 48).toInt := e26
                    have e27 : (cf18 46).toInt = (cf_113 46).toInt := e27
                    have e28 : (cf18 47).toInt = (cf_113 47).toInt := e28
                    have e29 : (cf18 57).toInt = (cf_113 57).toInt := e29
                    have e30 : (cf18 37).toInt = (cf_113 37).toInt := e30
                    have e31 : (cf18 42).toInt = (cf_113 42).toInt := e31
                    have e32 : (cf18 43).toInt = (cf_113 43).toInt := e32
                    have e33 : (cf18 44).toInt = (cf_113 44).toInt := e33
                    have e34 : (cf18 45).toInt = (cf_113 45).toInt := e34
                    have e35 : (cf18 54).toInt = (cf_113 54).toInt := e35
                    have e36 : (cf18 55).toInt = (cf_113 55).toInt := e36
                    have e37 : (cf18 58).toInt = (cf_113 58).toInt := e37
                    have e38 : (cf18 59).toInt = (cf_113 59).toInt := e38
                    have e39 : (cf18 41).toInt = (cf_113 41).toInt := e39
                    have hka : ZTe cf18 ta ca_113 na ma0 (cf18 48).toInt ys nf ma_113 (p0.toInt + 1) m1 (na 17 p0.toNatClampNeg) 0 := ZTe.to hka (fun q => by omega) (by omega) (Int.le_refl _) (Int.le_refl _) rfl
                    have hzts : ZTs cf18 ta ca_113 na ma0 (cf18 48).toInt ys nf ma_113 m1 mid_113 (ma0 18 p0.toNatClampNeg) x113_5 (if tgv (cf 44).toInt (cf 45).toInt = 4 then 4 else 3) := ZTs.to hzts (fun q => by omega) (by omega) (Int.le_refl _) (Int.le_refl _) rfl
                    have hw : pw D A s.heap H locs [wdP cs h r g tf ta pf na ma_113 wa cf18 ca_113 ef ea xf xa] := hw
                    refine lv_aload_n S.x S.b d_Mpg_checkSwitch_184 rfl (lv_at hl 0 rfl) ?_
                    refine px_get S k_Mpg hT hw 0 0 21 (v := .ref (r 21)) rfl rfl rfl (by decide) m10_7 d_Mpg_checkSwitch_185 ?_
                    refine lv_iload S.x S.b d_Mpg_checkSwitch_188 (lv_at hl 6 rfl) ?_
                    refine px_iald S hT hw 0 17 (n := 2100) (f := (na 21)) rfl gp_21 (x := x113_6) (vp_in_iff.mpr (by constructor <;> omega)) d_Mpg_checkSwitch_190 ?_
                    refine lv_topi (fun z40 ez40 => ?_)
                    have lz40 := Int32.le_toInt z40
                    have uz40 := Int32.toInt_lt z40
                    refine lv_istore (lv' := [(6, .int z40), (0, .ref h), (1, .int p0), (2, .int x113_2), (3, .int x113_3), (4, .int x113_4), (5, .int x113_5)]) S.x S.b d_Mpg_checkSwitch_191 hl (by decide) rfl (fun ls hl => ?_)
                    refine lv_goto (tgt := 113) S.x S.b d_Mpg_checkSwitch_193 (by decide) ?_
                    exact ih113 ma_113 cf18 ca_113 mid_113 wr_113 cnt_113 mdi_113 wvi_113 (mm_113 - 1) x113_2 x113_3 x113_4 x113_5 z40 _ _ ls (show (cf18 30).toInt = 0 → (cf 30).toInt = 0 from by omega) (show WrV cf18 (tf 6).toInt from hwr) (show (cf18 38).toInt = (cf 38).toInt from by omega) (show (cf18 43).toInt = (cf 43).toInt from by omega) (show (cf18 44).toInt = (cf 44).toInt from by omega) (show (cf18 46).toInt = (cf 46).toInt from by omega) (show (cf18 47).toInt = (cf 47).toInt from by omega) (show (cf18 41).toInt = (cf 41).toInt from by omega) (show (cf18 55).toInt = (cf 55).toInt from by omega) (show (cf18 59).toInt = (cf 59).toInt from by omega) (show (cf 33).toInt ≤ (cf18 33).toInt from by omega) (show 6 * (cf18 33).toInt ≤ 6 * (cf 33).toInt + (w1 + (w2 - wr_113)) from by omega) (show (cf 48).toInt ≤ (cf18 48).toInt from by omega) (show 6 * (cf18 48).toInt ≤ 6 * (cf 48).toInt + (w1 + (w2 - wr_113)) from by omega) (show (cf 54).toInt ≤ (cf18 54).toInt from by omega) (show (cf 42).toInt ≤ (cf18 42).toInt from by omega) (show (cf18 54).toInt - (cf 54).toInt ≤ 4 * ((cf18 42).toInt - (cf 42).toInt) from by omega) (show (cf18 54).toInt - (cf 54).toInt ≤ 4096 * ((cf18 48).toInt - (cf 48).toInt) from by omega) (show (cf18 42).toInt - (cf 42).toInt ≤ 4096 * ((cf18 48).toInt - (cf 48).toInt) from by omega) (show KnT (tf 6).toInt ca_113 (cf18 33).toInt from (KnT.eq hkt (by omega))) (show KnS ca_113 (cf18 33).toInt (cf18 48).toInt ys from (KnS.eq hks (by omega) (by omega))) (show CaG ca ca_113 (cf 33).toInt (cf 48).toInt from (hcg.le (by omega) (by omega))) (show SyR ca_113 ys (cf18 48).toInt (cf18 54).toInt tx from (SyR.eq hsr (by omega) (by omega))) (show Ann na ma0 ma_113 from han) (show FrC lo hi ma ma_113 from hfc) (show (cf18 37).toInt = (cf 33).toInt from by omega) (show (cf18 45).toInt = (cf 45).toInt + 1 from by omega) (show x113_2.toInt = (cf 33).toInt from by omega) (show x113_3.toInt = (cf 37).toInt from by omega) (show 0 ≤ x113_4.toInt from by omega) (show x113_4.toInt ≤ 1 from by omega) (show m1 ≤ mid_113 from by omega) (show mid_113 ≤ hi from by omega) (show 0 ≤ wr_113 from by omega) (show wr_113 ≤ w2 from by omega) (show 0 ≤ cnt_113 from by omega) (show ZTe cf18 ta ca_113 na ma0 (cf18 48).toInt ys nf ma_113 (p0.toInt + 1) m1 (na 17 p0.toNatClampNeg) 0 from (ZTe.to hka (fun q => by omega) (by omega) (Int.le_refl _) (Int.le_refl _) rfl)) (show mid_51 ≤ mid_113 from by omega) (show 0 ≤ x113_5.toInt from by omega) (show x113_5.toInt < mdi_113 from by omega) (show mid_113 ≤ x113_5.toInt from by omega) (show mdi_113 ≤ hi from by omega) (show 0 ≤ wvi_113 from by omega) (show wvi_113 ≤ wr_113 from by omega) (show 0 ≤ (mm_113 - 1) from by omega) (show (na 14 x113_5.toNatClampNeg).toInt = 29 from by omega) (show 0 ≤ (na 15 x113_5.toNatClampNeg).toInt from by omega) (show (na 15 x113_5.toNatClampNeg).toInt < (tf 6).toInt from by omega) (show RvS ta (tf 6).toInt na ma0 d mdi_113 hi (wr_113 - wvi_113) (na 21 x113_5.toNatClampNeg) from hrs) (show RlD na (ma0 18 p0.toNatClampNeg) x113_5 cnt_113 from hrd) (show RlE na z40 x113_5 (mm_113 - 1) from (by rw [ez40]; exact hg4)) (show ZTs cf18 ta ca_113 na ma0 (cf18 48).toInt ys nf ma_113 m1 mid_113 (ma0 18 p0.toNatClampNeg) x113_5 (if tgv (cf 44).toInt (cf 45).toInt = 4 then 4 else 3) from (ZTs.to hzts (fun q => by omega) (by omega) (Int.le_refl _) (Int.le_refl _) rfl)) (show (mm_113 - 1) < (n_113 : Int) from by omega) hw (lv_sub hl [1, 2, 3, 4, 5, 6, 0] rfl)
      refine lv_iload S.x S.b d_Mpg_checkSwitch_51 (lv_at hl 5 rfl) ?_
      refine lv_if_lt (tgt := 253) S.x S.b d_Mpg_checkSwitch_53 (by decide) (fun c41 => ?_) (fun c41 => ?_)
      · have nc41 : x51_5.toInt < (0 : Int) := (i_lt (x := x51_5) (y := 0)).mp c41
        refine lv_aload_n S.x S.b d_Mpg_checkSwitch_253 rfl (lv_at hl 0 rfl) ?_
        refine lv_dup S.x S.b d_Mpg_checkSwitch_254 rfl ?_
        refine px_get S k_Mpg hT hw 0 0 45 (v := .int (cf_51 45)) rfl rfl rfl (by decide) m10_36 d_Mpg_checkSwitch_255 ?_
        refine lv_iconst (v := 1) S.x S.b d_Mpg_checkSwitch_258 (by decide) ?_
        refine lv_isub S.x S.b d_Mpg_checkSwitch_259 ?_
        have lr42 := Int32.le_toInt (cf_51 45)
        have ur42 := Int32.toInt_lt (cf_51 45)
        refine lv_topi (fun z43 ez43 => ?_)
        have tz43 : z43.toInt = ((cf_51 45).toInt - (1 : Int) + 2147483648) % 4294967296 - 2147483648 := by rw [ez43]; exact i_sub (cf_51 45) 1
        have lz43 := Int32.le_toInt z43
        have uz43 := Int32.toInt_lt z43
        try replace tz43 : z43.toInt = (cf_51 45).toInt - (1 : Int) := by omega
        refine px_put S k_Mpg hT hw 0 0 45 rfl rfl (by decide) m10_36 rfl rfl rfl (Nat.le_of_ble_eq_true rfl) d_Mpg_checkSwitch_260 (w' := wdP cs h r g tf ta pf na ma_51 wa (upd cf_51 45 z43) ca_51 ef ea xf xa) (ps' := [wdP cs h r g tf ta pf na ma_51 wa (upd cf_51 45 z43) ca_51 ef ea xf xa]) rfl rfl (fun H locs hw => ?_)
        refine lv_aload_n S.x S.b d_Mpg_checkSwitch_263 rfl (lv_at hl 0 rfl) ?_
        refine lv_iload_n S.x S.b d_Mpg_checkSwitch_264 rfl (lv_at hl 2 rfl) ?_
        refine lv_iload_n S.x S.b d_Mpg_checkSwitch_265 rfl (lv_at hl 3 rfl) ?_
        refine px_callv (pr := []) (px_runV (As := [.int x51_2, .int x51_3]) (rest := []) S (c_mp_leave l D cs h r g tf ta pf na ma_51 wa ca_51 ef ea xf xa (upd cf_51 45 z43) x51_2 x51_3  htk _) hT (pr := []) (pcs := [wdP cs h r g tf ta pf na ma_51 wa (upd cf_51 45 z43) ca_51 ef ea xf xa]) hw px_X.tt (px_recv hT hw 0 0 rfl rfl rfl) m12_209 m12_206 m12_208 ms_12_5 m1_21 q_Mpg_leave ⟨show 0 + 1 ≤ (6 * d + 29) from by omega, show 8 + (3 + 11) + 0 ≤ (260 * d + 1020) from by omega⟩ hl.1 rfl (Nat.le_of_ble_eq_true rfl) d_Mpg_checkSwitch_266 ⟨Nat.le_of_ble_eq_true rfl, Nat.le_of_ble_eq_true rfl⟩) hw hA (fun p46 H locs hp46 hw => ?_)
        obtain ⟨cf45, rfl, e48, e49, e50, e51, e52, e53, e54, e55, e56, e57, e58, e59, e60, e61, e62, e63, e64, e65⟩ := hp46
        have e48 : (cf45 33).toInt = x51_2.toInt := e48
        have e49 : (cf45 37).toInt = x51_3.toInt := e49
        have e50 : (cf45 30).toInt = (cf_51 30).toInt := e50
        have e51 : (cf45 31).toInt = (cf_51 31).toInt := e51
        have e52 : (cf45 38).toInt = (cf_51 38).toInt := e52
        have e53 : (cf45 41).toInt = (cf_51 41).toInt := e53
        have e54 : (cf45 42).toInt = (cf_51 42).toInt := e54
        have e55 : (cf45 43).toInt = (cf_51 43).toInt := e55
        have e56 : (cf45 44).toInt = (cf_51 44).toInt := e56
        have e57 : (cf45 45).toInt = z43.toInt := e57
        have e58 : (cf45 46).toInt = (cf_51 46).toInt := e58
        have e59 : (cf45 47).toInt = (cf_51 47).toInt := e59
        have e60 : (cf45 48).toInt = (cf_51 48).toInt := e60
        have e61 : (cf45 54).toInt = (cf_51 54).toInt := e61
        have e62 : (cf45 55).toInt = (cf_51 55).toInt := e62
        have e63 : (cf45 57).toInt = (cf_51 57).toInt := e63
        have e64 : (cf45 58).toInt = (cf_51 58).toInt := e64
        have e65 : (cf45 59).toInt = (cf_51 59).toInt := e65
        have hwr : WrV cf45 (tf 6).toInt := WrV.eq hwr (by omega) (by omega)
        have hkt := KnT.eq (n' := (cf45 33).toInt) (KnT.cg hkt0 hcg (Int.le_refl _)) (by omega)
        have hks := KnS.eq (n' := (cf45 33).toInt) (KnS.cg hks0 hcg (Int.le_refl _) (Int.le_refl _) (n2 := (cf45 48).toInt) (by omega)) (by omega) rfl
        have hka : ZTe cf45 ta ca_51 na ma0 (cf45 48).toInt ys nf ma_51 (p0.toInt + 1) m1 (na 17 p0.toNatClampNeg) 0 := ZTe.to hka (fun q => by omega) (by omega) (Int.le_refl _) (Int.le_refl _) rfl
        have hzts : ZTs cf45 ta ca_51 na ma0 (cf45 48).toInt ys nf ma_51 m1 mid_51 (ma0 18 p0.toNatClampNeg) x51_5 (if tgv (cf 44).toInt (cf 45).toInt = 4 then 4 else 3) := ZTs.to hzts (fun q => by omega) (by omega) (Int.le_refl _) (Int.le_refl _) rfl
        have hw : pw D A s.heap H locs [wdP cs h r g tf ta pf na ma_51 wa cf45 ca_51 ef ea xf xa] := hw
        exact px_vret S hr hlk hAe hw (Nat.le_of_ble_eq_true rfl) (Nat.le_of_ble_eq_true rfl) (⟨ma_51, cf45, ca_51, rfl, (show (cf45 30).toInt = 0 → (cf 30).toInt = 0 from by omega), (show WrV cf45 (tf 6).toInt from hwr), (show (cf45 37).toInt = (cf 37).toInt from by omega), (show (cf45 38).toInt = (cf 38).toInt from by omega), (show (cf45 43).toInt = (cf 43).toInt from by omega), (show (cf45 44).toInt = (cf 44).toInt from by omega), (show (cf45 45).toInt = (cf 45).toInt from by omega), (show (cf45 46).toInt = (cf 46).toInt from by omega), (show (cf45 47).toInt = (cf 47).toInt from by omega), (show (cf45 41).toInt = (cf 41).toInt from by omega), (show (cf45 55).toInt = (cf 55).toInt from by omega), (show (cf45 59).toInt = (cf 59).toInt from by omega), (show (cf45 33).toInt = (cf 33).toInt from by omega), (show (cf 48).toInt ≤ (cf45 48).toInt from by omega), (show 6 * (cf45 48).toInt ≤ 6 * (cf 48).toInt + (w) from by omega), (show (cf 54).toInt ≤ (cf45 54).toInt from by omega), (show (cf 42).toInt ≤ (cf45 42).toInt from by omega), (show (cf45 54).toInt - (cf 54).toInt ≤ 4 * ((cf45 42).toInt - (cf 42).toInt) from by omega), (show (cf45 54).toInt - (cf 54).toInt ≤ 4096 * ((cf45 48).toInt - (cf 48).toInt) from by omega), (show (cf45 42).toInt - (cf 42).toInt ≤ 4096 * ((cf45 48).toInt - (cf 48).toInt) from by omega), (show KnT (tf 6).toInt ca_51 (cf45 33).toInt from (KnT.eq hkt (by omega))), (show KnS ca_51 (cf45 33).toInt (cf45 48).toInt ys from (KnS.eq hks (by omega) (by omega))), (show CaG ca ca_51 (cf 33).toInt (cf 48).toInt from (hcg.le (by omega) (by omega))), (show SyR ca_51 ys (cf45 48).toInt (cf45 54).toInt tx from (SyR.eq hsr (by omega) (by omega))), (show Ann na ma0 ma_51 from han), (show FrC lo hi ma ma_51 from hfc), (show ZTe cf45 ta ca_51 na ma0 (cf45 48).toInt ys nf ma_51 lo hi p0 (tgv (cf 44).toInt (cf 45).toInt) from (fun zz => by exact tys_28 ⟨by omega, by omega, by omega⟩ tgv_rng (by omega) rfl (Ann.b18 han (by omega)).symm (ZTe.at hka (by omega) (by omega) (by omega) (by omega) rfl) (ZTs.at hzts (by omega) (by omega) (by omega) (by omega) rfl) (by omega)))⟩) d_Mpg_checkSwitch_269
      · have nc41 : ¬ x51_5.toInt < (0 : Int) := mt (i_lt (x := x51_5) (y := 0)).mpr c41
        refine lv_aload_n S.x S.b d_Mpg_checkSwitch_56 rfl (lv_at hl 0 rfl) ?_
        obtain ⟨md66, wv67, hm1_md66, hm2_md66, hm3_md66, hsc_x51_5, hx3_md66, hrs2⟩ := RvE.step hrs (by omega); have hwp2 := RvE.wp hrs2; have hsr_x51_5 := ScV.rng hsc_x51_5; have hkq := ScV.kind hsc_x51_5
        refine px_get S k_Mpg hT hw 0 0 14 (v := .ref (r 14)) rfl rfl rfl (by decide) m9_238 d_Mpg_checkSwitch_57 ?_
        refine lv_iload S.x S.b d_Mpg_checkSwitch_60 (lv_at hl 5 rfl) ?_
        refine px_bald S hT hw 0 10 (n := 2100) (f := (na 14)) rfl gp_14 (x := x51_5) (vp_in_iff.mpr (by constructor <;> omega)) d_Mpg_checkSwitch_62 ?_
        refine lv_topi (fun z68 ez68 => ?_)
        have lz68 := Int32.le_toInt z68
        have uz68 := Int32.toInt_lt z68
        have rz68 : z68.toInt = (na 14 x51_5.toNatClampNeg).toInt := (by rw [ez68])
        refine lv_bipush (v := 29) S.x S.b d_Mpg_checkSwitch_63 (by decide) ?_
        refine lv_icmp_ne (tgt := 199) S.x S.b d_Mpg_checkSwitch_65 (by decide) (fun c69 => ?_) (fun c69 => ?_)
        · have nc69 : ¬ z68.toInt = (29 : Int) := mt (i_eq (x := z68) (y := 29)).mpr c69
          refine lv_aload_n S.x S.b d_Mpg_checkSwitch_199 rfl (lv_at hl 0 rfl) ?_
          refine px_get S k_Mpg hT hw 0 0 14 (v := .ref (r 14)) rfl rfl rfl (by decide) m9_238 d_Mpg_checkSwitch_200 ?_
          refine lv_iload S.x S.b d_Mpg_checkSwitch_203 (lv_at hl 5 rfl) ?_
          refine px_bald S hT hw 0 10 (n := 2100) (f := (na 14)) rfl gp_14 (x := x51_5) (vp_in_iff.mpr (by constructor <;> omega)) d_Mpg_checkSwitch_205 ?_
          refine lv_topi (fun z70 ez70 => ?_)
          have lz70 := Int32.le_toInt z70
          have uz70 := Int32.toInt_lt z70
          have rz70 : z70.toInt = (na 14 x51_5.toNatClampNeg).toInt := (by rw [ez70])
          refine lv_bipush (v := 30) S.x S.b d_Mpg_checkSwitch_206 (by decide) ?_
          refine lv_icmp_ne (tgt := 235) S.x S.b d_Mpg_checkSwitch_208 (by decide) (fun c71 => ?_) (fun c71 => ?_)
          · have nc71 : ¬ z70.toInt = (30 : Int) := mt (i_eq (x := z70) (y := 30)).mpr c71
            refine lv_aload_n S.x S.b d_Mpg_checkSwitch_235 rfl (lv_at hl 0 rfl) ?_
            refine lv_iload S.x S.b d_Mpg_checkSwitch_236 (lv_at hl 5 rfl) ?_
            refine px_callv (pr := []) (px_runV (As := [.int x51_5]) (rest := []) S (hLS ma0 ys nf tx mid_51 md66 wv67 h r g tf ta pf na wa ef ea xf xa ma_51 cf_51 ca_51 x51_5 (show 0 ≤ mid_51 from by omega) (show md66 ≤ (pf 13).toInt from by omega) (show (pf 13).toInt ≤ 2100 from by omega) (show (tf 6).toInt ≤ 2049 from by omega) (show 0 ≤ (cf_51 33).toInt from by omega) (show 0 ≤ wv67 from by omega) (show 6 * (cf_51 33).toInt + wv67 ≤ 6540 from by omega) (show 0 ≤ (cf_51 48).toInt from by omega) (show 6 * (cf_51 48).toInt + wv67 ≤ 6540 from by omega) (show (cf_51 38).toInt = nf from by omega) (show 0 ≤ nf from by omega) (show 0 ≤ (cf_51 37).toInt from by omega) (show 0 ≤ (cf_51 54).toInt from by omega) (show (cf_51 54).toInt ≤ 4096 * (cf_51 48).toInt from by omega) (show 0 ≤ (cf_51 42).toInt from by omega) (show (cf_51 42).toInt ≤ 4 + 4096 * (cf_51 48).toInt from by omega) (show 0 ≤ (cf_51 44).toInt from by omega) (show 0 ≤ (cf_51 45).toInt from by omega) (show ys ≤ (cf_51 48).toInt ∨ tx = 1 from by omega) (show 0 ≤ (cf_51 46).toInt from by omega) (show (cf_51 46).toInt ≤ 1 from by omega) (show 0 ≤ (cf_51 47).toInt from by omega) (show (cf_51 47).toInt ≤ 1 from by omega) (show (cf_51 44).toInt + (d : Int) ≤ 400 from by omega) (show (cf_51 45).toInt + (d : Int) ≤ 400 from by omega) (show 0 ≤ (cf_51 43).toInt from by omega) (show (cf_51 43).toInt < 2100 from by omega) (show tx = 0 from by omega) htk (FsI.le (N' := (pf 13).toInt) hfs (by omega)) hwr (KnT.eq hkt (by omega)) (FnT.eq hft (by omega)) (KnS.eq hks (by omega) (by omega)) hfp (SyR.eq hsr (by omega) (by omega)) han (show txo (cf_51 43).toInt = tx from by rw [show (cf_51 43).toInt = (cf 43).toInt by omega]; exact htx) hsc_x51_5 _) hT (pr := []) (pcs := [wdP cs h r g tf ta pf na ma_51 wa cf_51 ca_51 ef ea xf xa]) hw (oX_call (P := (fun A U H => (oP A g U H))) (pr := []) oG_P hw hA hP) (px_recv hT hw 0 0 rfl rfl rfl) m12_201 m12_198 m12_200 ms_12_3 m1_21 q_Mpg_checkStatement ⟨show (6 * d + 26) + 1 ≤ (6 * d + 29) from by omega, show 8 + (3 + 11) + (260 * d + 900) ≤ (260 * d + 1020) from by omega⟩ hl.1 rfl (Nat.le_of_ble_eq_true rfl) d_Mpg_checkSwitch_238 ⟨Nat.le_of_ble_eq_true rfl, Nat.le_of_ble_eq_true rfl⟩) hw hA (fun p78 H locs hp78 hw => ?_)
            obtain ⟨ma75, cf76, ca77, rfl, e80, e81, e82, e83, e84, e85, e86, e87, e88, e89, e90, e91, e92, e93, e94, e95, e96, e97, e98, e99, e100, e101, e102, e103, e104, e105, e106, e107⟩ := hp78
            have e80 : (cf76 30).toInt = 0 → (cf_51 30).toInt = 0 := e80
            have e81 : WrV cf76 (tf 6).toInt := e81
            have hwr := e81
            have hw0_e81 := hwr.1
            have e82 : (cf76 37).toInt = (cf_51 37).toInt := e82
            have e83 : (cf76 38).toInt = (cf_51 38).toInt := e83
            have e84 : (cf76 43).toInt = (cf_51 43).toInt := e84
            have e85 : (cf76 44).toInt = (cf_51 44).toInt := e85
            have e86 : (cf76 45).toInt = (cf_51 45).toInt := e86
            have e87 : (cf76 46).toInt = (cf_51 46).toInt := e87
            have e88 : (cf76 47).toInt = (cf_51 47).toInt := e88
            have e89 : (cf76 41).toInt = (cf_51 41).toInt := e89
            have e90 : (cf76 55).toInt = (cf_51 55).toInt := e90
            have e91 : (cf76 59).toInt = (cf_51 59).toInt := e91
            have e92 : (cf_51 33).toInt ≤ (cf76 33).toInt := e92
            have e93 : 6 * (cf76 33).toInt ≤ 6 * (cf_51 33).toInt + (wv67) := e93
            have e94 : (cf_51 48).toInt ≤ (cf76 48).toInt := e94
            have e95 : 6 * (cf76 48).toInt ≤ 6 * (cf_51 48).toInt + (wv67) := e95
            have e96 : (cf_51 54).toInt ≤ (cf76 54).toInt := e96
            have e97 : (cf_51 42).toInt ≤ (cf76 42).toInt := e97
            have e98 : (cf76 54).toInt - (cf_51 54).toInt ≤ 4 * ((cf76 42).toInt - (cf_51 42).toInt) := e98
            have e99 : (cf76 54).toInt - (cf_51 54).toInt ≤ 4096 * ((cf76 48).toInt - (cf_51 48).toInt) := e99
            have e100 : (cf76 42).toInt - (cf_51 42).toInt ≤ 4096 * ((cf76 48).toInt - (cf_51 48).toInt) := e100
            have e101 : KnT (tf 6).toInt ca77 (cf76 33).toInt := e101
            have hkt := e101
            have hk11_e101 := hkt.1
            have e102 : KnS ca77 (cf76 33).toInt (cf76 48).toInt ys := e102
            have hks := e102
            have e103 : CaG ca_51 ca77 (cf_51 33).toInt (cf_51 48).toInt := e103
            have hcg := hcg.tr e103 (by omega) (by omega)
            have hft := hft.cg e103
            have hfp := hfp.cg e103
            have e104 : SyR ca77 ys (cf76 48).toInt (cf76 54).toInt tx := e104
            have hsr := e104
            have e105 : Ann na ma0 ma75 := e105
            have han := e105
            have e106 : FrC mid_51 md66 ma_51 ma75 := e106
            have hfc := hfc.tr e106 (by omega) (by omega)
            have hka : ZTe cf76 ta ca77 na ma0 (cf76 48).toInt ys nf ma75 (p0.toInt + 1) m1 (na 17 p0.toNatClampNeg) 0 := ZTe.tr hka (fun q => by omega) e106 (by omega) e103 (by omega) (by omega)
            have hzts : ZTs cf76 ta ca77 na ma0 (cf76 48).toInt ys nf ma75 m1 mid_51 (ma0 18 p0.toNatClampNeg) x51_5 (if tgv (cf 44).toInt (cf 45).toInt = 4 then 4 else 3) := ZTs.tr hzts (fun q => by omega) e106 (by omega) e103 (by omega) (by omega)
            have e107 : ZTe cf76 ta ca77 na ma0 (cf76 48).toInt ys nf ma75 mid_51 md66 x51_5 (tgv (cf_51 44).toInt (cf_51 45).toInt) := e107
            have hts_x51_5 : ZTe cf76 ta ca77 na ma0 (cf76 48).toInt ys nf ma75 mid_51 md66 x51_5 (if tgv (cf 44).toInt (cf 45).toInt = 4 then 4 else 3) := ZTe.to e107 (fun q => by omega) (by omega) (Int.le_refl _) (Int.le_refl _) (tgv_sw (by omega) (by omega) (by omega))
            have hw : pw D A s.heap H locs [wdP cs h r g tf ta pf na ma75 wa cf76 ca77 ef ea xf xa] := hw
            refine lv_aload_n S.x S.b d_Mpg_checkSwitch_241 rfl (lv_at hl 0 rfl) ?_
            refine px_get S k_Mpg hT hw 0 0 21 (v := .ref (r 21)) rfl rfl rfl (by decide) m10_7 d_Mpg_checkSwitch_242 ?_
            refine lv_iload S.x S.b d_Mpg_checkSwitch_245 (lv_at hl 5 rfl) ?_
            refine px_iald S hT hw 0 17 (n := 2100) (f := (na 21)) rfl gp_21 (x := x51_5) (vp_in_iff.mpr (by constructor <;> omega)) d_Mpg_checkSwitch_247 ?_
            refine lv_topi (fun z108 ez108 => ?_)
            have lz108 := Int32.le_toInt z108
            have uz108 := Int32.toInt_lt z108
            refine lv_istore (lv' := [(5, .int z108), (0, .ref h), (1, .int p0), (2, .int x51_2), (3, .int x51_3), (4, .int x51_4)]) S.x S.b d_Mpg_checkSwitch_248 hl (by decide) rfl (fun ls hl => ?_)
            refine lv_goto (tgt := 51) S.x S.b d_Mpg_checkSwitch_250 (by decide) ?_
            exact ih51 ma75 cf76 ca77 md66 (wr_51 - wv67) (cnt_51 + 1) x51_2 x51_3 x51_4 z108 _ _ ls (show (cf76 30).toInt = 0 → (cf 30).toInt = 0 from by omega) (show WrV cf76 (tf 6).toInt from hwr) (show (cf76 38).toInt = (cf 38).toInt from by omega) (show (cf76 43).toInt = (cf 43).toInt from by omega) (show (cf76 44).toInt = (cf 44).toInt from by omega) (show (cf76 46).toInt = (cf 46).toInt from by omega) (show (cf76 47).toInt = (cf 47).toInt from by omega) (show (cf76 41).toInt = (cf 41).toInt from by omega) (show (cf76 55).toInt = (cf 55).toInt from by omega) (show (cf76 59).toInt = (cf 59).toInt from by omega) (show (cf 33).toInt ≤ (cf76 33).toInt from by omega) (show 6 * (cf76 33).toInt ≤ 6 * (cf 33).toInt + (w1 + (w2 - (wr_51 - wv67))) from by omega) (show (cf 48).toInt ≤ (cf76 48).toInt from by omega) (show 6 * (cf76 48).toInt ≤ 6 * (cf 48).toInt + (w1 + (w2 - (wr_51 - wv67))) from by omega) (show (cf 54).toInt ≤ (cf76 54).toInt from by omega) (show (cf 42).toInt ≤ (cf76 42).toInt from by omega) (show (cf76 54).toInt - (cf 54).toInt ≤ 4 * ((cf76 42).toInt - (cf 42).toInt) from by omega) (show (cf76 54).toInt - (cf 54).toInt ≤ 4096 * ((cf76 48).toInt - (cf 48).toInt) from by omega) (show (cf76 42).toInt - (cf 42).toInt ≤ 4096 * ((cf76 48).toInt - (cf 48).toInt) from by omega) (show KnT (tf 6).toInt ca77 (cf76 33).toInt from (KnT.eq hkt (by omega))) (show KnS ca77 (cf76 33).toInt (cf76 48).toInt ys from (KnS.eq hks (by omega) (by omega))) (show CaG ca ca77 (cf 33).toInt (cf 48).toInt from (hcg.le (by omega) (by omega))) (show SyR ca77 ys (cf76 48).toInt (cf76 54).toInt tx from (SyR.eq hsr (by omega) (by omega))) (show Ann na ma0 ma75 from han) (show FrC lo hi ma ma75 from hfc) (show (cf76 37).toInt = (cf 33).toInt from by omega) (show (cf76 45).toInt = (cf 45).toInt + 1 from by omega) (show x51_2.toInt = (cf 33).toInt from by omega) (show x51_3.toInt = (cf 37).toInt from by omega) (show 0 ≤ x51_4.toInt from by omega) (show x51_4.toInt ≤ 1 from by omega) (show m1 ≤ md66 from by omega) (show md66 ≤ hi from by omega) (show 0 ≤ (wr_51 - wv67) from by omega) (show (wr_51 - wv67) ≤ w2 from by omega) (show 0 ≤ (cnt_51 + 1) from by omega) (show ZTe cf76 ta ca77 na ma0 (cf76 48).toInt ys nf ma75 (p0.toInt + 1) m1 (na 17 p0.toNatClampNeg) 0 from (ZTe.to hka (fun q => by omega) (by omega) (Int.le_refl _) (Int.le_refl _) rfl)) (show RvS ta (tf 6).toInt na ma0 d md66 hi (wr_51 - wv67) z108 from (by rw [ez108]; exact hrs2)) (show RlD na (ma0 18 p0.toNatClampNeg) z108 (cnt_51 + 1) from (RlD.nx hrd (by omega) (by omega) (by omega) ez108 (by omega))) (show ZTs cf76 ta ca77 na ma0 (cf76 48).toInt ys nf ma75 m1 md66 (ma0 18 p0.toNatClampNeg) z108 (if tgv (cf 44).toInt (cf 45).toInt = 4 then 4 else 3) from (ZTs.nx (ZTs.to hzts (fun q => by omega) (by omega) (Int.le_refl _) (by omega) rfl) (ZTe.to hts_x51_5 (fun q => by omega) (by omega) (by omega) (Int.le_refl _) rfl) (by omega) ez108)) (show hi - md66 < (n_51 : Int) from by omega) hw (lv_sub hl [1, 2, 3, 4, 5, 0] rfl)
          · have nc71 : z70.toInt = (30 : Int) := (i_eq (x := z70) (y := 30)).mp c71
            refine lv_iload S.x S.b d_Mpg_checkSwitch_211 (lv_at hl 4 rfl) ?_
            refine lv_if_eq (tgt := 229) S.x S.b d_Mpg_checkSwitch_213 (by decide) (fun c109 => ?_) (fun c109 => ?_)
            · have nc109 : x51_4.toInt = (0 : Int) := (i_eq (x := x51_4) (y := 0)).mp c109
              refine lv_iconst (v := 1) S.x S.b d_Mpg_checkSwitch_229 (by decide) ?_
              refine lv_istore (lv' := [(4, .int 1), (0, .ref h), (1, .int p0), (2, .int x51_2), (3, .int x51_3), (5, .int x51_5)]) S.x S.b d_Mpg_checkSwitch_230 hl (by decide) rfl (fun ls hl => ?_)
              refine lv_goto (tgt := 241) S.x S.b d_Mpg_checkSwitch_232 (by decide) ?_
              refine lv_aload_n S.x S.b d_Mpg_checkSwitch_241 rfl (lv_at hl 1 rfl) ?_
              refine px_get S k_Mpg hT hw 0 0 21 (v := .ref (r 21)) rfl rfl rfl (by decide) m10_7 d_Mpg_checkSwitch_242 ?_
              refine lv_iload S.x S.b d_Mpg_checkSwitch_245 (lv_at hl 5 rfl) ?_
              refine px_iald S hT hw 0 17 (n := 2100) (f := (na 21)) rfl gp_21 (x := x51_5) (vp_in_iff.mpr (by constructor <;> omega)) d_Mpg_checkSwitch_247 ?_
              refine lv_topi (fun z110 ez110 => ?_)
              have lz110 := Int32.le_toInt z110
              have uz110 := Int32.toInt_lt z110
              refine lv_istore (lv' := [(5, .int z110), (4, .int 1), (0, .ref h), (1, .int p0), (2, .int x51_2), (3, .int x51_3)]) S.x S.b d_Mpg_checkSwitch_248 hl (by decide) rfl (fun ls hl => ?_)
              refine lv_goto (tgt := 51) S.x S.b d_Mpg_checkSwitch_250 (by decide) ?_
              exact ih51 ma_51 cf_51 ca_51 md66 (wr_51 - wv67) (cnt_51 + 1) x51_2 x51_3 (1 : Int32) z110 _ _ ls (show (cf_51 30).toInt = 0 → (cf 30).toInt = 0 from by omega) (show WrV cf_51 (tf 6).toInt from hwr) (show (cf_51 38).toInt = (cf 38).toInt from by omega) (show (cf_51 43).toInt = (cf 43).toInt from by omega) (show (cf_51 44).toInt = (cf 44).toInt from by omega) (show (cf_51 46).toInt = (cf 46).toInt from by omega) (show (cf_51 47).toInt = (cf 47).toInt from by omega) (show (cf_51 41).toInt = (cf 41).toInt from by omega) (show (cf_51 55).toInt = (cf 55).toInt from by omega) (show (cf_51 59).toInt = (cf 59).toInt from by omega) (show (cf 33).toInt ≤ (cf_51 33).toInt from by omega) (show 6 * (cf_51 33).toInt ≤ 6 * (cf 33).toInt + (w1 + (w2 - (wr_51 - wv67))) from by omega) (show (cf 48).toInt ≤ (cf_51 48).toInt from by omega) (show 6 * (cf_51 48).toInt ≤ 6 * (cf 48).toInt + (w1 + (w2 - (wr_51 - wv67))) from by omega) (show (cf 54).toInt ≤ (cf_51 54).toInt from by omega) (show (cf 42).toInt ≤ (cf_51 42).toInt from by omega) (show (cf_51 54).toInt - (cf 54).toInt ≤ 4 * ((cf_51 42).toInt - (cf 42).toInt) from by omega) (show (cf_51 54).toInt - (cf 54).toInt ≤ 4096 * ((cf_51 48).toInt - (cf 48).toInt) from by omega) (show (cf_51 42).toInt - (cf 42).toInt ≤ 4096 * ((cf_51 48).toInt - (cf 48).toInt) from by omega) (show KnT (tf 6).toInt ca_51 (cf_51 33).toInt from (KnT.eq hkt (by omega))) (show KnS ca_51 (cf_51 33).toInt (cf_51 48).toInt ys from (KnS.eq hks (by omega) (by omega))) (show CaG ca ca_51 (cf 33).toInt (cf 48).toInt from (hcg.le (by omega) (by omega))) (show SyR ca_51 ys (cf_51 48).toInt (cf_51 54).toInt tx from (SyR.eq hsr (by omega) (by omega))) (show Ann na ma0 ma_51 from han) (show FrC lo hi ma ma_51 from hfc) (show (cf_51 37).toInt = (cf 33).toInt from by omega) (show (cf_51 45).toInt = (cf 45).toInt + 1 from by omega) (show x51_2.toInt = (cf 33).toInt from by omega) (show x51_3.toInt = (cf 37).toInt from by omega) (show 0 ≤ (1 : Int) from by omega) (show (1 : Int) ≤ 1 from by omega) (show m1 ≤ md66 from by omega) (show md66 ≤ hi from by omega) (show 0 ≤ (wr_51 - wv67) from by omega) (show (wr_51 - wv67) ≤ w2 from by omega) (show 0 ≤ (cnt_51 + 1) from by omega) (show ZTe cf_51 ta ca_51 na ma0 (cf_51 48).toInt ys nf ma_51 (p0.toInt + 1) m1 (na 17 p0.toNatClampNeg) 0 from (ZTe.to hka (fun q => by omega) (by omega) (Int.le_refl _) (Int.le_refl _) rfl)) (show RvS ta (tf 6).toInt na ma0 d md66 hi (wr_51 - wv67) z110 from (by rw [ez110]; exact hrs2)) (show RlD na (ma0 18 p0.toNatClampNeg) z110 (cnt_51 + 1) from (RlD.nx hrd (by omega) (by omega) (by omega) ez110 (by omega))) (show ZTs cf_51 ta ca_51 na ma0 (cf_51 48).toInt ys nf ma_51 m1 md66 (ma0 18 p0.toNatClampNeg) z110 (if tgv (cf 44).toInt (cf 45).toInt = 4 then 4 else 3) from (ZTs.nx (ZTs.to hzts (fun q => by omega) (by omega) (Int.le_refl _) (by omega) rfl) (show ZTe cf_51 ta ca_51 na ma0 (cf_51 48).toInt ys nf ma_51 m1 md66 x51_5 (if tgv (cf 44).toInt (cf 45).toInt = 4 then 4 else 3) from fun zz => tys_0 ⟨by omega, by omega, by omega⟩ tsw_rng (by omega)) (by omega) ez110)) (show hi - md66 < (n_51 : Int) from by omega) hw (lv_sub hl [2, 3, 4, 5, 1, 0] rfl)
            · have nc109 : ¬ x51_4.toInt = (0 : Int) := mt (i_eq (x := x51_4) (y := 0)).mpr c109
              refine lv_aload_n S.x S.b d_Mpg_checkSwitch_216 rfl (lv_at hl 0 rfl) ?_
              refine lv_bipush (v := 10) S.x S.b d_Mpg_checkSwitch_217 (by decide) ?_
              refine lv_aload_n S.x S.b d_Mpg_checkSwitch_219 rfl (lv_at hl 0 rfl) ?_
              refine px_get S k_Mpg hT hw 0 0 15 (v := .ref (r 15)) rfl rfl rfl (by decide) m9_239 d_Mpg_checkSwitch_220 ?_
              refine lv_iload S.x S.b d_Mpg_checkSwitch_223 (lv_at hl 5 rfl) ?_
              refine px_iald S hT hw 0 11 (n := 2100) (f := (na 15)) rfl gp_15 (x := x51_5) (vp_in_iff.mpr (by constructor <;> omega)) d_Mpg_checkSwitch_225 ?_
              refine lv_topi (fun z111 ez111 => ?_)
              have lz111 := Int32.le_toInt z111
              have uz111 := Int32.toInt_lt z111
              have rz111 : z111.toInt = (na 15 x51_5.toNatClampNeg).toInt := by rw [ez111]
              refine px_callv (pr := []) (px_runV (As := [.int 10, .int z111]) (rest := []) S (c_mp_bad l D cs h r g tf ta pf na ma_51 wa ca_51 ef ea xf xa cf_51 10 z111  (show 1 ≤ (10 : Int) from by omega) (show 0 ≤ z111.toInt from by omega) (show z111.toInt < (tf 6).toInt from by omega) htk hwr _) hT (pr := []) (pcs := [wdP cs h r g tf ta pf na ma_51 wa cf_51 ca_51 ef ea xf xa]) hw px_X.tt (px_recv hT hw 0 0 rfl rfl rfl) m12_173 m12_170 m12_172 ms_11_12 m1_21 q_Mpg_bad ⟨show 0 + 1 ≤ (6 * d + 29) from by omega, show 8 + (3 + 11) + 0 ≤ (260 * d + 1020) from by omega⟩ hl.1 rfl (Nat.le_of_ble_eq_true rfl) d_Mpg_checkSwitch_226 ⟨Nat.le_of_ble_eq_true rfl, Nat.le_of_ble_eq_true rfl⟩) hw hA (fun p114 H locs hp114 hw => ?_)
              obtain ⟨cf113, rfl, e116, e117, e118, e119, e120, e121, e122, e123, e124, e125, e126, e127, e128, e129, e130, e131, e132, e133, e134⟩ := hp114
              have e116 : KpE cf_51 cf113 := e116
              have hkz_e116 := e116.2
              have e117 : WrV cf113 (tf 6).toInt := e117
              have hwr := e117
              have hw0_e117 := hwr.1
              have e118 : 1 ≤ (cf113 30).toInt := e118
              have e119 : (cf113 33).toInt = (cf_51 33).toInt := e119
              have e120 : (cf113 38).toInt = (cf_51 38).toInt := e120
              have e121 : (cf113 48).toInt = (cf_51 48).toInt := e121
              have e122 : (cf113 46).toInt = (cf_51 46).toInt := e122
              have e123 : (cf113 47).toInt = (cf_51 47).toInt := e123
              have e124 : (cf113 57).toInt = (cf_51 57).toInt := e124
              have e125 : (cf113 37).toInt = (cf_51 37).toInt := e125
              have e126 : (cf113 42).toInt = (cf_51 42).toInt := e126
              have e127 : (cf113 43).toInt = (cf_51 43).toInt := e127
              have e128 : (cf113 44).toInt = (cf_51 44).toInt := e128
              have e129 : (cf113 45).toInt = (cf_51 45).toInt := e129
              have e130 : (cf113 54).toInt = (cf_51 54).toInt := e130
              have e131 : (cf113 55).toInt = (cf_51 55).toInt := e131
              have e132 : (cf113 58).toInt = (cf_51 58).toInt := e132
              have e133 : (cf113 59).toInt = (cf_51 59).toInt := e133
              have e134 : (cf113 41).toInt = (cf_51 41).toInt := e134
              have hka : ZTe cf113 ta ca_51 na ma0 (cf113 48).toInt ys nf ma_51 (p0.toInt + 1) m1 (na 17 p0.toNatClampNeg) 0 := ZTe.to hka (fun q => by omega) (by omega) (Int.le_refl _) (Int.le_refl _) rfl
              have hzts : ZTs cf113 ta ca_51 na ma0 (cf113 48).toInt ys nf ma_51 m1 mid_51 (ma0 18 p0.toNatClampNeg) x51_5 (if tgv (cf 44).toInt (cf 45).toInt = 4 then 4 else 3) := ZTs.to hzts (fun q => by omega) (by omega) (Int.le_refl _) (Int.le_refl _) rfl
              have hw : pw D A s.heap H locs [wdP cs h r g tf ta pf na ma_51 wa cf113 ca_51 ef ea xf xa] := hw
              refine lv_iconst (v := 1) S.x S.b d_Mpg_checkSwitch_229 (by decide) ?_
              refine lv_istore (lv' := [(4, .int 1), (0, .ref h), (1, .int p0), (2, .int x51_2), (3, .int x51_3), (5, .int x51_5)]) S.x S.b d_Mpg_checkSwitch_230 hl (by decide) rfl (fun ls hl => ?_)
              refine lv_goto (tgt := 241) S.x S.b d_Mpg_checkSwitch_232 (by decide) ?_
              refine lv_aload_n S.x S.b d_Mpg_checkSwitch_241 rfl (lv_at hl 1 rfl) ?_
              refine px_get S k_Mpg hT hw 0 0 21 (v := .ref (r 21)) rfl rfl rfl (by decide) m10_7 d_Mpg_checkSwitch_242 ?_
              refine lv_iload S.x S.b d_Mpg_checkSwitch_245 (lv_at hl 5 rfl) ?_
              refine px_iald S hT hw 0 17 (n := 2100) (f := (na 21)) rfl gp_21 (x := x51_5) (vp_in_iff.mpr (by constructor <;> omega)) d_Mpg_checkSwitch_247 ?_
              refine lv_topi (fun z135 ez135 => ?_)
              have lz135 := Int32.le_toInt z135
              have uz135 := Int32.toInt_lt z135
              refine lv_istore (lv' := [(5, .int z135), (4, .int 1), (0, .ref h), (1, .int p0), (2, .int x51_2), (3, .int x51_3)]) S.x S.b d_Mpg_checkSwitch_248 hl (by decide) rfl (fun ls hl => ?_)
              refine lv_goto (tgt := 51) S.x S.b d_Mpg_checkSwitch_250 (by decide) ?_
              exact ih51 ma_51 cf113 ca_51 md66 (wr_51 - wv67) (cnt_51 + 1) x51_2 x51_3 (1 : Int32) z135 _ _ ls (show (cf113 30).toInt = 0 → (cf 30).toInt = 0 from by omega) (show WrV cf113 (tf 6).toInt from hwr) (show (cf113 38).toInt = (cf 38).toInt from by omega) (show (cf113 43).toInt = (cf 43).toInt from by omega) (show (cf113 44).toInt = (cf 44).toInt from by omega) (show (cf113 46).toInt = (cf 46).toInt from by omega) (show (cf113 47).toInt = (cf 47).toInt from by omega) (show (cf113 41).toInt = (cf 41).toInt from by omega) (show (cf113 55).toInt = (cf 55).toInt from by omega) (show (cf113 59).toInt = (cf 59).toInt from by omega) (show (cf 33).toInt ≤ (cf113 33).toInt from by omega) (show 6 * (cf113 33).toInt ≤ 6 * (cf 33).toInt + (w1 + (w2 - (wr_51 - wv67))) from by omega) (show (cf 48).toInt ≤ (cf113 48).toInt from by omega) (show 6 * (cf113 48).toInt ≤ 6 * (cf 48).toInt + (w1 + (w2 - (wr_51 - wv67))) from by omega) (show (cf 54).toInt ≤ (cf113 54).toInt from by omega) (show (cf 42).toInt ≤ (cf113 42).toInt from by omega) (show (cf113 54).toInt - (cf 54).toInt ≤ 4 * ((cf113 42).toInt - (cf 42).toInt) from by omega) (show (cf113 54).toInt - (cf 54).toInt ≤ 4096 * ((cf113 48).toInt - (cf 48).toInt) from by omega) (show (cf113 42).toInt - (cf 42).toInt ≤ 4096 * ((cf113 48).toInt - (cf 48).toInt) from by omega) (show KnT (tf 6).toInt ca_51 (cf113 33).toInt from (KnT.eq hkt (by omega))) (show KnS ca_51 (cf113 33).toInt (cf113 48).toInt ys from (KnS.eq hks (by omega) (by omega))) (show CaG ca ca_51 (cf 33).toInt (cf 48).toInt from (hcg.le (by omega) (by omega))) (show SyR ca_51 ys (cf113 48).toInt (cf113 54).toInt tx from (SyR.eq hsr (by omega) (by omega))) (show Ann na ma0 ma_51 from han) (show FrC lo hi ma ma_51 from hfc) (show (cf113 37).toInt = (cf 33).toInt from by omega) (show (cf113 45).toInt = (cf 45).toInt + 1 from by omega) (show x51_2.toInt = (cf 33).toInt from by omega) (show x51_3.toInt = (cf 37).toInt from by omega) (show 0 ≤ (1 : Int) from by omega) (show (1 : Int) ≤ 1 from by omega) (show m1 ≤ md66 from by omega) (show md66 ≤ hi from by omega) (show 0 ≤ (wr_51 - wv67) from by omega) (show (wr_51 - wv67) ≤ w2 from by omega) (show 0 ≤ (cnt_51 + 1) from by omega) (show ZTe cf113 ta ca_51 na ma0 (cf113 48).toInt ys nf ma_51 (p0.toInt + 1) m1 (na 17 p0.toNatClampNeg) 0 from (ZTe.to hka (fun q => by omega) (by omega) (Int.le_refl _) (Int.le_refl _) rfl)) (show RvS ta (tf 6).toInt na ma0 d md66 hi (wr_51 - wv67) z135 from (by rw [ez135]; exact hrs2)) (show RlD na (ma0 18 p0.toNatClampNeg) z135 (cnt_51 + 1) from (RlD.nx hrd (by omega) (by omega) (by omega) ez135 (by omega))) (show ZTs cf113 ta ca_51 na ma0 (cf113 48).toInt ys nf ma_51 m1 md66 (ma0 18 p0.toNatClampNeg) z135 (if tgv (cf 44).toInt (cf 45).toInt = 4 then 4 else 3) from (ZTs.nx (ZTs.to hzts (fun q => by omega) (by omega) (Int.le_refl _) (by omega) rfl) (show ZTe cf113 ta ca_51 na ma0 (cf113 48).toInt ys nf ma_51 m1 md66 x51_5 (if tgv (cf 44).toInt (cf 45).toInt = 4 then 4 else 3) from fun zz => tys_0 ⟨by omega, by omega, by omega⟩ tsw_rng (by omega)) (by omega) ez135)) (show hi - md66 < (n_51 : Int) from by omega) hw (lv_sub hl [2, 3, 4, 5, 1, 0] rfl)
        · have nc69 : z68.toInt = (29 : Int) := (i_eq (x := z68) (y := 29)).mp c69
          refine lv_aload_n S.x S.b d_Mpg_checkSwitch_68 rfl (lv_at hl 0 rfl) ?_
          refine px_get S k_Mpg hT hw 0 0 22 (v := .ref (r 22)) rfl rfl rfl (by decide) m10_9 d_Mpg_checkSwitch_69 ?_
          refine lv_iload S.x S.b d_Mpg_checkSwitch_72 (lv_at hl 5 rfl) ?_
          refine lv_aload_n S.x S.b d_Mpg_checkSwitch_74 rfl (lv_at hl 0 rfl) ?_
          refine lv_aload_n S.x S.b d_Mpg_checkSwitch_75 rfl (lv_at hl 0 rfl) ?_
          refine px_get S k_Mpg hT hw 0 0 17 (v := .ref (r 17)) rfl rfl rfl (by decide) m10_1 d_Mpg_checkSwitch_76 ?_
          refine lv_iload S.x S.b d_Mpg_checkSwitch_79 (lv_at hl 5 rfl) ?_
          refine px_iald S hT hw 0 13 (n := 2100) (f := (na 17)) rfl gp_17 (x := x51_5) (vp_in_iff.mpr (by constructor <;> omega)) d_Mpg_checkSwitch_81 ?_
          refine lv_topi (fun z136 ez136 => ?_)
          have lz136 := Int32.le_toInt z136
          have uz136 := Int32.toInt_lt z136
          have ha_z136 : z136 = na 17 x51_5.toNatClampNeg := ez136; have hn_z136 : z136.toInt = (na 17 x51_5.toNatClampNeg).toInt := (by rw [ha_z136]); have hev_z136 : ErV ta (tf 6).toInt na ma0 d (x51_5.toInt + 1) md66 (wv67 - 1) z136 := (by rw [ha_z136]; exact (ScV.t29 hsc_x51_5 (by omega) rfl)); obtain ⟨hec_z136, h20_z136, hw_z136⟩ := hev_z136.ec; have hrg_z136 := EcV.rng hec_z136
          refine px_calli (pr := []) (px_runV (As := [.int z136]) (rest := [.int x51_5, .ref (r 22)]) S (c_mp_checkConstant l D cs ma0 ys (cf_51 48).toInt nf (cf_51 33).toInt d (x51_5.toInt + 1) md66 h r g tf ta pf na wa ca_51 ef ea xf xa ma_51 cf_51 z136  (show 0 ≤ (x51_5.toInt + 1) from by omega) (show md66 ≤ (pf 13).toInt from by omega) (show (pf 13).toInt ≤ 2100 from by omega) (show (tf 6).toInt ≤ 2049 from by omega) (show (cf_51 33).toInt = (cf_51 33).toInt from by omega) (show 0 ≤ (cf_51 33).toInt from by omega) (show (cf_51 48).toInt = (cf_51 48).toInt from by omega) (show (cf_51 38).toInt = nf from by omega) (show 0 ≤ nf from by omega) (show 0 ≤ (cf_51 46).toInt from by omega) (show (cf_51 46).toInt ≤ 1 from by omega) (show 0 ≤ (cf_51 47).toInt from by omega) (show (cf_51 47).toInt ≤ 1 from by omega) htk (FsI.le (N' := (pf 13).toInt) hfs (by omega)) hwr (KnT.eq hkt (by omega)) (FnT.eq hft (by omega)) (KnS.eq hks (by omega) (by omega)) hfp han hec_z136 (by first | assumption | omega) _) hT (pr := []) (pcs := [wdP cs h r g tf ta pf na ma_51 wa cf_51 ca_51 ef ea xf xa]) hw (oX_call (P := (fun A U H => (oP A g U H))) (pr := []) oG_P hw hA hP) (px_recv hT hw 0 0 rfl rfl rfl) m12_237 m12_234 m12_236 ms_12_12 m1_21 q_Mpg_checkConstant ⟨show (4 * d + 18) + 1 ≤ (6 * d + 29) from by omega, show 8 + (5 + 11) + (200 * d + 640) ≤ (260 * d + 1020) from by omega⟩ hl.1 rfl (Nat.le_of_ble_eq_true rfl) d_Mpg_checkSwitch_82 ⟨Nat.le_of_ble_eq_true rfl, Nat.le_of_ble_eq_true rfl⟩) hw hA (fun v142 p141 H locs hp141 hw => ?_)
          obtain ⟨ma139, cf140, rfl, e143, e144, e145, e146, e147, e148, e149, e150, e151, e152, e153⟩ := hp141
          have e143 : KpE cf_51 cf140 := e143
          have hkz_e143 := e143.2
          have hkk37_e143 : (cf140 37).toInt = (cf_51 37).toInt := (by rw [e143.1 37 (by decide) (by decide) (by decide) (by decide) (by decide)] <;> rfl)
          have hkk43_e143 : (cf140 43).toInt = (cf_51 43).toInt := (by rw [e143.1 43 (by decide) (by decide) (by decide) (by decide) (by decide)] <;> rfl)
          have hkk44_e143 : (cf140 44).toInt = (cf_51 44).toInt := (by rw [e143.1 44 (by decide) (by decide) (by decide) (by decide) (by decide)] <;> rfl)
          have hkk45_e143 : (cf140 45).toInt = (cf_51 45).toInt := (by rw [e143.1 45 (by decide) (by decide) (by decide) (by decide) (by decide)] <;> rfl)
          have hkk41_e143 : (cf140 41).toInt = (cf_51 41).toInt := (by rw [e143.1 41 (by decide) (by decide) (by decide) (by decide) (by decide)] <;> rfl)
          have hkk55_e143 : (cf140 55).toInt = (cf_51 55).toInt := (by rw [e143.1 55 (by decide) (by decide) (by decide) (by decide) (by decide)] <;> rfl)
          have hkk59_e143 : (cf140 59).toInt = (cf_51 59).toInt := (by rw [e143.1 59 (by decide) (by decide) (by decide) (by decide) (by decide)] <;> rfl)
          have hkk42_e143 : (cf140 42).toInt = (cf_51 42).toInt := (by rw [e143.1 42 (by decide) (by decide) (by decide) (by decide) (by decide)] <;> rfl)
          have hkk54_e143 : (cf140 54).toInt = (cf_51 54).toInt := (by rw [e143.1 54 (by decide) (by decide) (by decide) (by decide) (by decide)] <;> rfl)
          have hkk58_e143 : (cf140 58).toInt = (cf_51 58).toInt := (by rw [e143.1 58 (by decide) (by decide) (by decide) (by decide) (by decide)] <;> rfl)
          have e144 : WrV cf140 (tf 6).toInt := e144
          have hwr := e144
          have hw0_e144 := hwr.1
          have e145 : (cf140 33).toInt = (cf_51 33).toInt := e145
          have e146 : (cf140 38).toInt = (cf_51 38).toInt := e146
          have e147 : (cf140 48).toInt = (cf_51 48).toInt := e147
          have e148 : (cf140 46).toInt = (cf_51 46).toInt := e148
          have e149 : (cf140 47).toInt = (cf_51 47).toInt := e149
          have e150 : Ann na ma0 ma139 := e150
          have han := e150
          have e151 : FrC (x51_5.toInt + 1) md66 ma_51 ma139 := e151
          have hfc := hfc.tr e151 (by omega) (by omega)
          have hka : ZTe cf140 ta ca_51 na ma0 (cf140 48).toInt ys nf ma139 (p0.toInt + 1) m1 (na 17 p0.toNatClampNeg) 0 := ZTe.tr hka (fun q => by omega) e151 (by omega) (CaG.rf (kn := 0) (ns := 5000)) (by omega) (by omega)
          have hzts : ZTs cf140 ta ca_51 na ma0 (cf140 48).toInt ys nf ma139 m1 mid_51 (ma0 18 p0.toNatClampNeg) x51_5 (if tgv (cf 44).toInt (cf 45).toInt = 4 then 4 else 3) := ZTs.tr hzts (fun q => by omega) e151 (by omega) (CaG.rf (kn := 0) (ns := 5000)) (by omega) (by omega)
          have e152 := z_rng e152
          have e153 : v142.toInt = 0 → 1 ≤ (cf140 30).toInt := e153
          have hw : pw D A s.heap H locs [wdP cs h r g tf ta pf na ma139 wa cf140 ca_51 ef ea xf xa] := hw
          have lv142 := Int32.le_toInt v142
          have uv142 := Int32.toInt_lt v142
          refine lv_if_eq (tgt := 92) S.x S.b d_Mpg_checkSwitch_85 (by decide) (fun c154 => ?_) (fun c154 => ?_)
          · have nc154 : v142.toInt = (0 : Int) := (i_eq (x := v142) (y := 0)).mp c154
            refine lv_iconst (v := 0) S.x S.b d_Mpg_checkSwitch_92 (by decide) ?_
            refine px_iast S hT hw 0 18 (n := 2100) (f := (ma139 22)) (x := x51_5) (y := 0) rfl gp_22 (vp_in_iff.mpr (by constructor <;> omega)) d_Mpg_checkSwitch_93 (w' := wdP cs h r g tf ta pf na (va_up ma139 22 (upd (ma139 22) x51_5.toNatClampNeg 0)) wa cf140 ca_51 ef ea xf xa) (ps' := [wdP cs h r g tf ta pf na (va_up ma139 22 (upd (ma139 22) x51_5.toNatClampNeg 0)) wa cf140 ca_51 ef ea xf xa]) sp_22 rfl (fun H locs hw => ?_)
            obtain ⟨ma155, hu_ma155⟩ : ∃ y : Nat → Nat → Int32, y = va_up ma139 22 (upd (ma139 22) x51_5.toNatClampNeg 0) := ⟨_, rfl⟩
            have hw : pw D A s.heap _ _ [wdP cs h r g tf ta pf na ma155 wa cf140 ca_51 ef ea xf xa] := (by rw [hu_ma155]; exact hw)
            have hf1_ma155 : FrC x51_5.toInt (x51_5.toInt + 1) ma139 ma155 := (by rw [hu_ma155]; exact FrC.w FrC.rf (by omega) (by omega) (by omega))
            have han : Ann na ma0 ma155 := (by rw [hu_ma155]; exact Ann.w22 han (by omega))
            have hfc := hfc.tr hf1_ma155 (by omega) (by omega)
            have hka : ZTe cf140 ta ca_51 na ma0 (cf140 48).toInt ys nf ma155 (p0.toInt + 1) m1 (na 17 p0.toNatClampNeg) 0 := ZTe.tr hka (fun q => by omega) hf1_ma155 (by omega) (CaG.rf (kn := 0) (ns := 5000)) (by omega) (by omega)
            have hzts : ZTs cf140 ta ca_51 na ma0 (cf140 48).toInt ys nf ma155 m1 mid_51 (ma0 18 p0.toNatClampNeg) x51_5 (if tgv (cf 44).toInt (cf 45).toInt = 4 then 4 else 3) := ZTs.tr hzts (fun q => by omega) hf1_ma155 (by omega) (CaG.rf (kn := 0) (ns := 5000)) (by omega) (by omega)
            have hv_22_x51_5 : ma155 22 x51_5.toNatClampNeg = (0 : Int32) := (by rw [hu_ma155, va_up_s, pk_us])
            have hnhv_22_x51_5 : (ma155 22 x51_5.toNatClampNeg).toInt = (0 : Int) := (by rw [hv_22_x51_5]; rfl)
            refine lv_aload_n S.x S.b d_Mpg_checkSwitch_94 rfl (lv_at hl 0 rfl) ?_
            refine px_get S k_Mpg hT hw 0 0 18 (v := .ref (r 18)) rfl rfl rfl (by decide) m10_3 d_Mpg_checkSwitch_95 ?_
            refine lv_iload S.x S.b d_Mpg_checkSwitch_98 (lv_at hl 5 rfl) ?_
            refine lv_aload_n S.x S.b d_Mpg_checkSwitch_100 rfl (lv_at hl 0 rfl) ?_
            refine px_get S k_Mpg hT hw 0 0 57 (v := .int (cf140 57)) rfl rfl rfl (by decide) m10_54 d_Mpg_checkSwitch_101 ?_
            refine px_iast S hT hw 0 14 (n := 2100) (f := (ma155 18)) (x := x51_5) (y := (cf140 57)) rfl gp_18 (vp_in_iff.mpr (by constructor <;> omega)) d_Mpg_checkSwitch_104 (w' := wdP cs h r g tf ta pf na (va_up ma155 18 (upd (ma155 18) x51_5.toNatClampNeg (cf140 57))) wa cf140 ca_51 ef ea xf xa) (ps' := [wdP cs h r g tf ta pf na (va_up ma155 18 (upd (ma155 18) x51_5.toNatClampNeg (cf140 57))) wa cf140 ca_51 ef ea xf xa]) sp_18 rfl (fun H locs hw => ?_)
            obtain ⟨ma156, hu_ma156⟩ : ∃ y : Nat → Nat → Int32, y = va_up ma155 18 (upd (ma155 18) x51_5.toNatClampNeg (cf140 57)) := ⟨_, rfl⟩
            have hw : pw D A s.heap _ _ [wdP cs h r g tf ta pf na ma156 wa cf140 ca_51 ef ea xf xa] := (by rw [hu_ma156]; exact hw)
            have hf1_ma156 : FrC x51_5.toInt (x51_5.toInt + 1) ma155 ma156 := (by rw [hu_ma156]; exact FrC.w FrC.rf (by omega) (by omega) (by omega))
            have han : Ann na ma0 ma156 := (by rw [hu_ma156]; exact Ann.w18 han (by omega))
            have hfc := hfc.tr hf1_ma156 (by omega) (by omega)
            have hka : ZTe cf140 ta ca_51 na ma0 (cf140 48).toInt ys nf ma156 (p0.toInt + 1) m1 (na 17 p0.toNatClampNeg) 0 := ZTe.tr hka (fun q => by omega) hf1_ma156 (by omega) (CaG.rf (kn := 0) (ns := 5000)) (by omega) (by omega)
            have hzts : ZTs cf140 ta ca_51 na ma0 (cf140 48).toInt ys nf ma156 m1 mid_51 (ma0 18 p0.toNatClampNeg) x51_5 (if tgv (cf 44).toInt (cf 45).toInt = 4 then 4 else 3) := ZTs.tr hzts (fun q => by omega) hf1_ma156 (by omega) (CaG.rf (kn := 0) (ns := 5000)) (by omega) (by omega)
            have hqhv_22_x51_5 : (ma156 22 x51_5.toNatClampNeg).toInt = (ma155 22 x51_5.toNatClampNeg).toInt := (by rw [hu_ma156, va_up_n (by decide)])
            have hv_22_x51_5 := (show ma156 22 x51_5.toNatClampNeg = ma155 22 x51_5.toNatClampNeg by rw [hu_ma156, va_up_n (by decide)]).trans hv_22_x51_5
            have hv_18_x51_5 : ma156 18 x51_5.toNatClampNeg = (cf140 57) := (by rw [hu_ma156, va_up_s, pk_us])
            have hnhv_18_x51_5 : (ma156 18 x51_5.toNatClampNeg).toInt = (cf140 57).toInt := (by rw [hv_18_x51_5])
            refine lv_aload_n S.x S.b d_Mpg_checkSwitch_105 rfl (lv_at hl 0 rfl) ?_
            refine px_get S k_Mpg hT hw 0 0 18 (v := .ref (r 18)) rfl rfl rfl (by decide) m10_3 d_Mpg_checkSwitch_106 ?_
            refine lv_iload_n S.x S.b d_Mpg_checkSwitch_109 rfl (lv_at hl 1 rfl) ?_
            refine px_iald S hT hw 0 14 (n := 2100) (f := (ma156 18)) rfl gp_18 (x := p0) (vp_in_iff.mpr (by constructor <;> omega)) d_Mpg_checkSwitch_110 ?_
            refine lv_topi (fun z157 ez157 => ?_)
            have lz157 := Int32.le_toInt z157
            have uz157 := Int32.toInt_lt z157
            have ha_z157 : z157 = ma0 18 p0.toNatClampNeg := ez157.trans (Ann.b18 han (by omega)); have hn_z157 : z157.toInt = (ma0 18 p0.toNatClampNeg).toInt := (by rw [ha_z157])
            refine lv_istore (lv' := [(6, .int z157), (0, .ref h), (1, .int p0), (2, .int x51_2), (3, .int x51_3), (4, .int x51_4), (5, .int x51_5)]) S.x S.b d_Mpg_checkSwitch_111 hl (by decide) rfl (fun ls hl => ?_)
            exact J113 ((cnt_51).toNat + 1) ma156 cf140 ca_51 mid_51 wr_51 cnt_51 md66 wv67 cnt_51 x51_2 x51_3 x51_4 x51_5 z157 _ _ ls (show (cf140 30).toInt = 0 → (cf 30).toInt = 0 from by omega) (show WrV cf140 (tf 6).toInt from hwr) (show (cf140 38).toInt = (cf 38).toInt from by omega) (show (cf140 43).toInt = (cf 43).toInt from by omega) (show (cf140 44).toInt = (cf 44).toInt from by omega) (show (cf140 46).toInt = (cf 46).toInt from by omega) (show (cf140 47).toInt = (cf 47).toInt from by omega) (show (cf140 41).toInt = (cf 41).toInt from by omega) (show (cf140 55).toInt = (cf 55).toInt from by omega) (show (cf140 59).toInt = (cf 59).toInt from by omega) (show (cf 33).toInt ≤ (cf140 33).toInt from by omega) (show 6 * (cf140 33).toInt ≤ 6 * (cf 33).toInt + (w1 + (w2 - wr_51)) from by omega) (show (cf 48).toInt ≤ (cf140 48).toInt from by omega) (show 6 * (cf140 48).toInt ≤ 6 * (cf 48).toInt + (w1 + (w2 - wr_51)) from by omega) (show (cf 54).toInt ≤ (cf140 54).toInt from by omega) (show (cf 42).toInt ≤ (cf140 42).toInt from by omega) (show (cf140 54).toInt - (cf 54).toInt ≤ 4 * ((cf140 42).toInt - (cf 42).toInt) from by omega) (show (cf140 54).toInt - (cf 54).toInt ≤ 4096 * ((cf140 48).toInt - (cf 48).toInt) from by omega) (show (cf140 42).toInt - (cf 42).toInt ≤ 4096 * ((cf140 48).toInt - (cf 48).toInt) from by omega) (show KnT (tf 6).toInt ca_51 (cf140 33).toInt from (KnT.eq hkt (by omega))) (show KnS ca_51 (cf140 33).toInt (cf140 48).toInt ys from (KnS.eq hks (by omega) (by omega))) (show CaG ca ca_51 (cf 33).toInt (cf 48).toInt from (hcg.le (by omega) (by omega))) (show SyR ca_51 ys (cf140 48).toInt (cf140 54).toInt tx from (SyR.eq hsr (by omega) (by omega))) (show Ann na ma0 ma156 from han) (show FrC lo hi ma ma156 from hfc) (show (cf140 37).toInt = (cf 33).toInt from by omega) (show (cf140 45).toInt = (cf 45).toInt + 1 from by omega) (show x51_2.toInt = (cf 33).toInt from by omega) (show x51_3.toInt = (cf 37).toInt from by omega) (show 0 ≤ x51_4.toInt from by omega) (show x51_4.toInt ≤ 1 from by omega) (show m1 ≤ mid_51 from by omega) (show mid_51 ≤ hi from by omega) (show 0 ≤ wr_51 from by omega) (show wr_51 ≤ w2 from by omega) (show 0 ≤ cnt_51 from by omega) (show ZTe cf140 ta ca_51 na ma0 (cf140 48).toInt ys nf ma156 (p0.toInt + 1) m1 (na 17 p0.toNatClampNeg) 0 from (ZTe.to hka (fun q => by omega) (by omega) (Int.le_refl _) (Int.le_refl _) rfl)) (show mid_51 ≤ mid_51 from by omega) (show 0 ≤ x51_5.toInt from by omega) (show x51_5.toInt < md66 from by omega) (show mid_51 ≤ x51_5.toInt from by omega) (show md66 ≤ hi from by omega) (show 0 ≤ wv67 from by omega) (show wv67 ≤ wr_51 from by omega) (show 0 ≤ cnt_51 from by omega) (show (na 14 x51_5.toNatClampNeg).toInt = 29 from by omega) (show 0 ≤ (na 15 x51_5.toNatClampNeg).toInt from by omega) (show (na 15 x51_5.toNatClampNeg).toInt < (tf 6).toInt from by omega) (show RvS ta (tf 6).toInt na ma0 d md66 hi (wr_51 - wv67) (na 21 x51_5.toNatClampNeg) from hrs2) (show RlD na (ma0 18 p0.toNatClampNeg) x51_5 cnt_51 from hrd) (show RlE na z157 x51_5 cnt_51 from (by rw [ha_z157]; exact hrd)) (show ZTs cf140 ta ca_51 na ma0 (cf140 48).toInt ys nf ma156 m1 mid_51 (ma0 18 p0.toNatClampNeg) x51_5 (if tgv (cf 44).toInt (cf 45).toInt = 4 then 4 else 3) from (ZTs.to hzts (fun q => by omega) (by omega) (Int.le_refl _) (Int.le_refl _) rfl)) (show cnt_51 < ((((cnt_51).toNat + 1 : Nat) : Int) : Int) from by omega) hw (lv_sub hl [1, 2, 3, 4, 5, 6, 0] rfl)
          · have nc154 : ¬ v142.toInt = (0 : Int) := mt (i_eq (x := v142) (y := 0)).mpr c154
            refine lv_iconst (v := 1) S.x S.b d_Mpg_checkSwitch_88 (by decide) ?_
            refine lv_goto (tgt := 93) S.x S.b d_Mpg_checkSwitch_89 (by decide) ?_
            refine px_iast S hT hw 0 18 (n := 2100) (f := (ma139 22)) (x := x51_5) (y := 1) rfl gp_22 (vp_in_iff.mpr (by constructor <;> omega)) d_Mpg_checkSwitch_93 (w' := wdP cs h r g tf ta pf na (va_up ma139 22 (upd (ma139 22) x51_5.toNatClampNeg 1)) wa cf140 ca_51 ef ea xf xa) (ps' := [wdP cs h r g tf ta pf na (va_up ma139 22 (upd (ma139 22) x51_5.toNatClampNeg 1)) wa cf140 ca_51 ef ea xf xa]) sp_22 rfl (fun H locs hw => ?_)
            obtain ⟨ma158, hu_ma158⟩ : ∃ y : Nat → Nat → Int32, y = va_up ma139 22 (upd (ma139 22) x51_5.toNatClampNeg 1) := ⟨_, rfl⟩
            have hw : pw D A s.heap _ _ [wdP cs h r g tf ta pf na ma158 wa cf140 ca_51 ef ea xf xa] := (by rw [hu_ma158]; exact hw)
            have hf1_ma158 : FrC x51_5.toInt (x51_5.toInt + 1) ma139 ma158 := (by rw [hu_ma158]; exact FrC.w FrC.rf (by omega) (by omega) (by omega))
            have han : Ann na ma0 ma158 := (by rw [hu_ma158]; exact Ann.w22 han (by omega))
            have hfc := hfc.tr hf1_ma158 (by omega) (by omega)
            have hka : ZTe cf140 ta ca_51 na ma0 (cf140 48).toInt ys nf ma158 (p0.toInt + 1) m1 (na 17 p0.toNatClampNeg) 0 := ZTe.tr hka (fun q => by omega) hf1_ma158 (by omega) (CaG.rf (kn := 0) (ns := 5000)) (by omega) (by omega)
            have hzts : ZTs cf140 ta ca_51 na ma0 (cf140 48).toInt ys nf ma158 m1 mid_51 (ma0 18 p0.toNatClampNeg) x51_5 (if tgv (cf 44).toInt (cf 45).toInt = 4 then 4 else 3) := ZTs.tr hzts (fun q => by omega) hf1_ma158 (by omega) (CaG.rf (kn := 0) (ns := 5000)) (by omega) (by omega)
            have hv_22_x51_5 : ma158 22 x51_5.toNatClampNeg = (1 : Int32) := (by rw [hu_ma158, va_up_s, pk_us])
            have hnhv_22_x51_5 : (ma158 22 x51_5.toNatClampNeg).toInt = (1 : Int) := (by rw [hv_22_x51_5]; rfl)
            refine lv_aload_n S.x S.b d_Mpg_checkSwitch_94 rfl (lv_at hl 0 rfl) ?_
            refine px_get S k_Mpg hT hw 0 0 18 (v := .ref (r 18)) rfl rfl rfl (by decide) m10_3 d_Mpg_checkSwitch_95 ?_
            refine lv_iload S.x S.b d_Mpg_checkSwitch_98 (lv_at hl 5 rfl) ?_
            refine lv_aload_n S.x S.b d_Mpg_checkSwitch_100 rfl (lv_at hl 0 rfl) ?_
            refine px_get S k_Mpg hT hw 0 0 57 (v := .int (cf140 57)) rfl rfl rfl (by decide) m10_54 d_Mpg_checkSwitch_101 ?_
            refine px_iast S hT hw 0 14 (n := 2100) (f := (ma158 18)) (x := x51_5) (y := (cf140 57)) rfl gp_18 (vp_in_iff.mpr (by constructor <;> omega)) d_Mpg_checkSwitch_104 (w' := wdP cs h r g tf ta pf na (va_up ma158 18 (upd (ma158 18) x51_5.toNatClampNeg (cf140 57))) wa cf140 ca_51 ef ea xf xa) (ps' := [wdP cs h r g tf ta pf na (va_up ma158 18 (upd (ma158 18) x51_5.toNatClampNeg (cf140 57))) wa cf140 ca_51 ef ea xf xa]) sp_18 rfl (fun H locs hw => ?_)
            obtain ⟨ma159, hu_ma159⟩ : ∃ y : Nat → Nat → Int32, y = va_up ma158 18 (upd (ma158 18) x51_5.toNatClampNeg (cf140 57)) := ⟨_, rfl⟩
            have hw : pw D A s.heap _ _ [wdP cs h r g tf ta pf na ma159 wa cf140 ca_51 ef ea xf xa] := (by rw [hu_ma159]; exact hw)
            have hf1_ma159 : FrC x51_5.toInt (x51_5.toInt + 1) ma158 ma159 := (by rw [hu_ma159]; exact FrC.w FrC.rf (by omega) (by omega) (by omega))
            have han : Ann na ma0 ma159 := (by rw [hu_ma159]; exact Ann.w18 han (by omega))
            have hfc := hfc.tr hf1_ma159 (by omega) (by omega)
            have hka : ZTe cf140 ta ca_51 na ma0 (cf140 48).toInt ys nf ma159 (p0.toInt + 1) m1 (na 17 p0.toNatClampNeg) 0 := ZTe.tr hka (fun q => by omega) hf1_ma159 (by omega) (CaG.rf (kn := 0) (ns := 5000)) (by omega) (by omega)
            have hzts : ZTs cf140 ta ca_51 na ma0 (cf140 48).toInt ys nf ma159 m1 mid_51 (ma0 18 p0.toNatClampNeg) x51_5 (if tgv (cf 44).toInt (cf 45).toInt = 4 then 4 else 3) := ZTs.tr hzts (fun q => by omega) hf1_ma159 (by omega) (CaG.rf (kn := 0) (ns := 5000)) (by omega) (by omega)
            have hqhv_22_x51_5 : (ma159 22 x51_5.toNatClampNeg).toInt = (ma158 22 x51_5.toNatClampNeg).toInt := (by rw [hu_ma159, va_up_n (by decide)])
            have hv_22_x51_5 := (show ma159 22 x51_5.toNatClampNeg = ma158 22 x51_5.toNatClampNeg by rw [hu_ma159, va_up_n (by decide)]).trans hv_22_x51_5
            have hv_18_x51_5 : ma159 18 x51_5.toNatClampNeg = (cf140 57) := (by rw [hu_ma159, va_up_s, pk_us])
            have hnhv_18_x51_5 : (ma159 18 x51_5.toNatClampNeg).toInt = (cf140 57).toInt := (by rw [hv_18_x51_5])
            refine lv_aload_n S.x S.b d_Mpg_checkSwitch_105 rfl (lv_at hl 0 rfl) ?_
            refine px_get S k_Mpg hT hw 0 0 18 (v := .ref (r 18)) rfl rfl rfl (by decide) m10_3 d_Mpg_checkSwitch_106 ?_
            refine lv_iload_n S.x S.b d_Mpg_checkSwitch_109 rfl (lv_at hl 1 rfl) ?_
            refine px_iald S hT hw 0 14 (n := 2100) (f := (ma159 18)) rfl gp_18 (x := p0) (vp_in_iff.mpr (by constructor <;> omega)) d_Mpg_checkSwitch_110 ?_
            refine lv_topi (fun z160 ez160 => ?_)
            have lz160 := Int32.le_toInt z160
            have uz160 := Int32.toInt_lt z160
            have ha_z160 : z160 = ma0 18 p0.toNatClampNeg := ez160.trans (Ann.b18 han (by omega)); have hn_z160 : z160.toInt = (ma0 18 p0.toNatClampNeg).toInt := (by rw [ha_z160])
            refine lv_istore (lv' := [(6, .int z160), (0, .ref h), (1, .int p0), (2, .int x51_2), (3, .int x51_3), (4, .int x51_4), (5, .int x51_5)]) S.x S.b d_Mpg_checkSwitch_111 hl (by decide) rfl (fun ls hl => ?_)
            exact J113 ((cnt_51).toNat + 1) ma159 cf140 ca_51 mid_51 wr_51 cnt_51 md66 wv67 cnt_51 x51_2 x51_3 x51_4 x51_5 z160 _ _ ls (show (cf140 30).toInt = 0 → (cf 30).toInt = 0 from by omega) (show WrV cf140 (tf 6).toInt from hwr) (show (cf140 38).toInt = (cf 38).toInt from by omega) (show (cf140 43).toInt = (cf 43).toInt from by omega) (show (cf140 44).toInt = (cf 44).toInt from by omega) (show (cf140 46).toInt = (cf 46).toInt from by omega) (show (cf140 47).toInt = (cf 47).toInt from by omega) (show (cf140 41).toInt = (cf 41).toInt from by omega) (show (cf140 55).toInt = (cf 55).toInt from by omega) (show (cf140 59).toInt = (cf 59).toInt from by omega) (show (cf 33).toInt ≤ (cf140 33).toInt from by omega) (show 6 * (cf140 33).toInt ≤ 6 * (cf 33).toInt + (w1 + (w2 - wr_51)) from by omega) (show (cf 48).toInt ≤ (cf140 48).toInt from by omega) (show 6 * (cf140 48).toInt ≤ 6 * (cf 48).toInt + (w1 + (w2 - wr_51)) from by omega) (show (cf 54).toInt ≤ (cf140 54).toInt from by omega) (show (cf 42).toInt ≤ (cf140 42).toInt from by omega) (show (cf140 54).toInt - (cf 54).toInt ≤ 4 * ((cf140 42).toInt - (cf 42).toInt) from by omega) (show (cf140 54).toInt - (cf 54).toInt ≤ 4096 * ((cf140 48).toInt - (cf 48).toInt) from by omega) (show (cf140 42).toInt - (cf 42).toInt ≤ 4096 * ((cf140 48).toInt - (cf 48).toInt) from by omega) (show KnT (tf 6).toInt ca_51 (cf140 33).toInt from (KnT.eq hkt (by omega))) (show KnS ca_51 (cf140 33).toInt (cf140 48).toInt ys from (KnS.eq hks (by omega) (by omega))) (show CaG ca ca_51 (cf 33).toInt (cf 48).toInt from (hcg.le (by omega) (by omega))) (show SyR ca_51 ys (cf140 48).toInt (cf140 54).toInt tx from (SyR.eq hsr (by omega) (by omega))) (show Ann na ma0 ma159 from han) (show FrC lo hi ma ma159 from hfc) (show (cf140 37).toInt = (cf 33).toInt from by omega) (show (cf140 45).toInt = (cf 45).toInt + 1 from by omega) (show x51_2.toInt = (cf 33).toInt from by omega) (show x51_3.toInt = (cf 37).toInt from by omega) (show 0 ≤ x51_4.toInt from by omega) (show x51_4.toInt ≤ 1 from by omega) (show m1 ≤ mid_51 from by omega) (show mid_51 ≤ hi from by omega) (show 0 ≤ wr_51 from by omega) (show wr_51 ≤ w2 from by omega) (show 0 ≤ cnt_51 from by omega) (show ZTe cf140 ta ca_51 na ma0 (cf140 48).toInt ys nf ma159 (p0.toInt + 1) m1 (na 17 p0.toNatClampNeg) 0 from (ZTe.to hka (fun q => by omega) (by omega) (Int.le_refl _) (Int.le_refl _) rfl)) (show mid_51 ≤ mid_51 from by omega) (show 0 ≤ x51_5.toInt from by omega) (show x51_5.toInt < md66 from by omega) (show mid_51 ≤ x51_5.toInt from by omega) (show md66 ≤ hi from by omega) (show 0 ≤ wv67 from by omega) (show wv67 ≤ wr_51 from by omega) (show 0 ≤ cnt_51 from by omega) (show (na 14 x51_5.toNatClampNeg).toInt = 29 from by omega) (show 0 ≤ (na 15 x51_5.toNatClampNeg).toInt from by omega) (show (na 15 x51_5.toNatClampNeg).toInt < (tf 6).toInt from by omega) (show RvS ta (tf 6).toInt na ma0 d md66 hi (wr_51 - wv67) (na 21 x51_5.toNatClampNeg) from hrs2) (show RlD na (ma0 18 p0.toNatClampNeg) x51_5 cnt_51 from hrd) (show RlE na z160 x51_5 cnt_51 from (by rw [ha_z160]; exact hrd)) (show ZTs cf140 ta ca_51 na ma0 (cf140 48).toInt ys nf ma159 m1 mid_51 (ma0 18 p0.toNatClampNeg) x51_5 (if tgv (cf 44).toInt (cf 45).toInt = 4 then 4 else 3) from (ZTs.to hzts (fun q => by omega) (by omega) (Int.le_refl _) (Int.le_refl _) rfl)) (show cnt_51 < ((((cnt_51).toNat + 1 : Nat) : Int) : Int) from by omega) hw (lv_sub hl [1, 2, 3, 4, 5, 6, 0] rfl)
  refine lv_aload_n S.x S.b d_Mpg_checkSwitch_0 rfl (lv_at hl 0 rfl) ?_
  refine lv_aload_n S.x S.b d_Mpg_checkSwitch_1 rfl (lv_at hl 0 rfl) ?_
  refine px_get S k_Mpg hT hw 0 0 17 (v := .ref (r 17)) rfl rfl rfl (by decide) m10_1 d_Mpg_checkSwitch_2 ?_
  refine lv_iload_n S.x S.b d_Mpg_checkSwitch_5 rfl (lv_at hl 1 rfl) ?_
  refine px_iald S hT hw 0 13 (n := 2100) (f := (na 17)) rfl gp_17 (x := p0) (vp_in_iff.mpr (by constructor <;> omega)) d_Mpg_checkSwitch_6 ?_
  refine lv_topi (fun z161 ez161 => ?_)
  have lz161 := Int32.le_toInt z161
  have uz161 := Int32.toInt_lt z161
  have ha_z161 : z161 = na 17 p0.toNatClampNeg := ez161; have hn_z161 : z161.toInt = (na 17 p0.toNatClampNeg).toInt := (by rw [ha_z161]); have hev_z161 : ErV ta (tf 6).toInt na ma0 d (p0.toInt + 1) m1 w1 z161 := (by rw [ha_z161]; exact hea); obtain ⟨hec_z161, h20_z161, hw_z161⟩ := hev_z161.ec; have hrg_z161 := EcV.rng hec_z161
  refine lv_iconst (v := 1) S.x S.b d_Mpg_checkSwitch_7 (by decide) ?_
  refine px_calli (pr := []) (px_runV (As := [.int z161, .int 1]) (rest := []) S (c_S_check l D cs ma0 ys (cf 48).toInt nf (cf 33).toInt d (p0.toInt + 1) m1 h r g tf ta pf na wa ca ef ea xf xa ma cf z161 1  (show 0 ≤ (p0.toInt + 1) from by omega) (show m1 ≤ (pf 13).toInt from by omega) (show (pf 13).toInt ≤ 2100 from by omega) (show (tf 6).toInt ≤ 2049 from by omega) (show (cf 33).toInt = (cf 33).toInt from by omega) (show 0 ≤ (cf 33).toInt from by omega) (show (cf 48).toInt = (cf 48).toInt from by omega) (show (cf 38).toInt = nf from by omega) (show 0 ≤ nf from by omega) (show 0 ≤ (1 : Int) from by omega) (show (1 : Int) ≤ 1 from by omega) htk (FsI.le (N' := (pf 13).toInt) hfs (by omega)) hwr (KnT.eq hkt (by omega)) (FnT.eq hft (by omega)) (KnS.eq hks (by omega) (by omega)) hfp han hec_z161 _) hT (pr := []) (pcs := [wdP cs h r g tf ta pf na ma wa cf ca ef ea xf xa]) hw (oX_call (P := (fun A U H => (oP A g U H))) (pr := []) oG_P hw hA hP) (px_recv hT hw 0 0 rfl rfl rfl) m12_217 m12_214 m12_216 ms_12_7 m1_21 q_Mpg_check ⟨show (4 * d + 12) + 1 ≤ (6 * d + 29) from by omega, show 8 + (8 + 11) + (200 * d + 420) ≤ (260 * d + 1020) from by omega⟩ hl.1 rfl (Nat.le_of_ble_eq_true rfl) d_Mpg_checkSwitch_8 ⟨Nat.le_of_ble_eq_true rfl, Nat.le_of_ble_eq_true rfl⟩) hw hA (fun v167 p166 H locs hp166 hw => ?_)
  obtain ⟨ma164, cf165, rfl, e168, e169, e170, e171, e172, e173, e174, e175, e176, e177, e178, e179, e180, e181, e182⟩ := hp166
  have e168 : KpE cf cf165 := e168
  have hkz_e168 := e168.2
  have hkk37_e168 : (cf165 37).toInt = (cf 37).toInt := (by rw [e168.1 37 (by decide) (by decide) (by decide) (by decide) (by decide)] <;> rfl)
  have hkk43_e168 : (cf165 43).toInt = (cf 43).toInt := (by rw [e168.1 43 (by decide) (by decide) (by decide) (by decide) (by decide)] <;> rfl)
  have hkk44_e168 : (cf165 44).toInt = (cf 44).toInt := (by rw [e168.1 44 (by decide) (by decide) (by decide) (by decide) (by decide)] <;> rfl)
  have hkk45_e168 : (cf165 45).toInt = (cf 45).toInt := (by rw [e168.1 45 (by decide) (by decide) (by decide) (by decide) (by decide)] <;> rfl)
  have hkk41_e168 : (cf165 41).toInt = (cf 41).toInt := (by rw [e168.1 41 (by decide) (by decide) (by decide) (by decide) (by decide)] <;> rfl)
  have hkk55_e168 : (cf165 55).toInt = (cf 55).toInt := (by rw [e168.1 55 (by decide) (by decide) (by decide) (by decide) (by decide)] <;> rfl)
  have hkk59_e168 : (cf165 59).toInt = (cf 59).toInt := (by rw [e168.1 59 (by decide) (by decide) (by decide) (by decide) (by decide)] <;> rfl)
  have hkk42_e168 : (cf165 42).toInt = (cf 42).toInt := (by rw [e168.1 42 (by decide) (by decide) (by decide) (by decide) (by decide)] <;> rfl)
  have hkk54_e168 : (cf165 54).toInt = (cf 54).toInt := (by rw [e168.1 54 (by decide) (by decide) (by decide) (by decide) (by decide)] <;> rfl)
  have hkk58_e168 : (cf165 58).toInt = (cf 58).toInt := (by rw [e168.1 58 (by decide) (by decide) (by decide) (by decide) (by decide)] <;> rfl)
  have e169 : WrV cf165 (tf 6).toInt := e169
  have hwr := e169
  have hw0_e169 := hwr.1
  have e170 : (cf165 33).toInt = (cf 33).toInt := e170
  have e171 : (cf165 38).toInt = (cf 38).toInt := e171
  have e172 : (cf165 48).toInt = (cf 48).toInt := e172
  have e173 : (cf165 46).toInt = (cf 46).toInt := e173
  have e174 : (cf165 47).toInt = (cf 47).toInt := e174
  have e175 : (cf165 57).toInt = (cf 57).toInt := e175
  have e176 : Ann na ma0 ma164 := e176
  have han := e176
  have e177 : FrC (p0.toInt + 1) m1 ma ma164 := e177
  have hfc := hfc.tr e177 (by omega) (by omega)
  have e178 : 0 ≤ v167.toInt := e178
  have e179 : v167.toInt ≤ 4 := e179
  have e180 : NmJ ta ca na ma164 (cf 33).toInt z161 v167.toInt := e180
  have e181 : ZTy cf165 (Gk ta ca na ma0 (cf 48).toInt ys nf) na ma164 (p0.toInt + 1) m1 z161 v167.toInt := e181
  have e182 : ZNm cf165 (1 : Int) v167.toInt := e182
  have hty_z161 : ZTe cf165 ta ca na ma0 (cf165 48).toInt ys nf ma164 (p0.toInt + 1) m1 z161 0 := ZTe.to (t := 0) (ZTy.num e181 e182) (fun q => by omega) (by omega) (Int.le_refl _) (Int.le_refl _) rfl
  have hw : pw D A s.heap H locs [wdP cs h r g tf ta pf na ma164 wa cf165 ca ef ea xf xa] := hw
  have lv167 := Int32.le_toInt v167
  have uv167 := Int32.toInt_lt v167
  refine lv_pop S.x S.b d_Mpg_checkSwitch_11 rfl ?_
  refine lv_aload_n S.x S.b d_Mpg_checkSwitch_12 rfl (lv_at hl 0 rfl) ?_
  refine px_get S k_Mpg hT hw 0 0 33 (v := .int (cf165 33)) rfl rfl rfl (by decide) m10_22 d_Mpg_checkSwitch_13 ?_
  refine lv_istore_n (lv' := [(2, .int (cf165 33)), (0, .ref h), (1, .int p0)]) S.x S.b d_Mpg_checkSwitch_16 rfl hl (by decide) rfl (fun ls hl => ?_)
  refine lv_aload_n S.x S.b d_Mpg_checkSwitch_17 rfl (lv_at hl 1 rfl) ?_
  refine px_get S k_Mpg hT hw 0 0 37 (v := .int (cf165 37)) rfl rfl rfl (by decide) m10_26 d_Mpg_checkSwitch_18 ?_
  refine lv_istore_n (lv' := [(3, .int (cf165 37)), (2, .int (cf165 33)), (0, .ref h), (1, .int p0)]) S.x S.b d_Mpg_checkSwitch_21 rfl hl (by decide) rfl (fun ls hl => ?_)
  refine lv_aload_n S.x S.b d_Mpg_checkSwitch_22 rfl (lv_at hl 2 rfl) ?_
  refine lv_aload_n S.x S.b d_Mpg_checkSwitch_23 rfl (lv_at hl 2 rfl) ?_
  refine px_get S k_Mpg hT hw 0 0 33 (v := .int (cf165 33)) rfl rfl rfl (by decide) m10_22 d_Mpg_checkSwitch_24 ?_
  refine px_put S k_Mpg hT hw 0 0 37 rfl rfl (by decide) m10_26 rfl rfl rfl (Nat.le_of_ble_eq_true rfl) d_Mpg_checkSwitch_27 (w' := wdP cs h r g tf ta pf na ma164 wa (upd cf165 37 (cf165 33)) ca ef ea xf xa) (ps' := [wdP cs h r g tf ta pf na ma164 wa (upd cf165 37 (cf165 33)) ca ef ea xf xa]) rfl rfl (fun H locs hw => ?_)
  refine lv_aload_n S.x S.b d_Mpg_checkSwitch_30 rfl (lv_at hl 2 rfl) ?_
  refine lv_dup S.x S.b d_Mpg_checkSwitch_31 rfl ?_
  refine px_get S k_Mpg hT hw 0 0 45 (v := .int (cf165 45)) rfl rfl rfl (by decide) m10_36 d_Mpg_checkSwitch_32 ?_
  refine lv_iconst (v := 1) S.x S.b d_Mpg_checkSwitch_35 (by decide) ?_
  refine lv_iadd S.x S.b d_Mpg_checkSwitch_36 ?_
  have lr183 := Int32.le_toInt (cf165 45)
  have ur183 := Int32.toInt_lt (cf165 45)
  refine lv_topi (fun z184 ez184 => ?_)
  have tz184 : z184.toInt = ((cf165 45).toInt + (1 : Int) + 2147483648) % 4294967296 - 2147483648 := by rw [ez184]; exact i_add (cf165 45) 1
  have lz184 := Int32.le_toInt z184
  have uz184 := Int32.toInt_lt z184
  try replace tz184 : z184.toInt = (cf165 45).toInt + (1 : Int) := by omega
  refine px_put S k_Mpg hT hw 0 0 45 rfl rfl (by decide) m10_36 rfl rfl rfl (Nat.le_of_ble_eq_true rfl) d_Mpg_checkSwitch_37 (w' := wdP cs h r g tf ta pf na ma164 wa (upd (upd cf165 37 (cf165 33)) 45 z184) ca ef ea xf xa) (ps' := [wdP cs h r g tf ta pf na ma164 wa (upd (upd cf165 37 (cf165 33)) 45 z184) ca ef ea xf xa]) rfl rfl (fun H locs hw => ?_)
  refine lv_iconst (v := 0) S.x S.b d_Mpg_checkSwitch_40 (by decide) ?_
  refine lv_istore (lv' := [(4, .int 0), (3, .int (cf165 37)), (2, .int (cf165 33)), (0, .ref h), (1, .int p0)]) S.x S.b d_Mpg_checkSwitch_41 hl (by decide) rfl (fun ls hl => ?_)
  refine lv_aload_n S.x S.b d_Mpg_checkSwitch_43 rfl (lv_at hl 3 rfl) ?_
  refine px_get S k_Mpg hT hw 0 0 18 (v := .ref (r 18)) rfl rfl rfl (by decide) m10_3 d_Mpg_checkSwitch_44 ?_
  refine lv_iload_n S.x S.b d_Mpg_checkSwitch_47 rfl (lv_at hl 4 rfl) ?_
  refine px_iald S hT hw 0 14 (n := 2100) (f := (ma164 18)) rfl gp_18 (x := p0) (vp_in_iff.mpr (by constructor <;> omega)) d_Mpg_checkSwitch_48 ?_
  refine lv_topi (fun z185 ez185 => ?_)
  have lz185 := Int32.le_toInt z185
  have uz185 := Int32.toInt_lt z185
  have ha_z185 : z185 = ma0 18 p0.toNatClampNeg := ez185.trans (Ann.b18 han (by omega)); have hn_z185 : z185.toInt = (ma0 18 p0.toNatClampNeg).toInt := (by rw [ha_z185])
  refine lv_istore (lv' := [(5, .int z185), (4, .int 0), (3, .int (cf165 37)), (2, .int (cf165 33)), (0, .ref h), (1, .int p0)]) S.x S.b d_Mpg_checkSwitch_49 hl (by decide) rfl (fun ls hl => ?_)
  exact J51 ((hi - m1).toNat + 1) ma164 (upd (upd cf165 37 (cf165 33)) 45 z184) ca m1 w2 0 (cf165 33) (cf165 37) (0 : Int32) z185 _ _ ls (show (cf165 30).toInt = 0 → (cf 30).toInt = 0 from by omega) (show WrV (upd (upd cf165 37 (cf165 33)) 45 z184) (tf 6).toInt from (WrV.u (WrV.u hwr (by decide) (by decide)) (by decide) (by decide))) (show (cf165 38).toInt = (cf 38).toInt from by omega) (show (cf165 43).toInt = (cf 43).toInt from by omega) (show (cf165 44).toInt = (cf 44).toInt from by omega) (show (cf165 46).toInt = (cf 46).toInt from by omega) (show (cf165 47).toInt = (cf 47).toInt from by omega) (show (cf165 41).toInt = (cf 41).toInt from by omega) (show (cf165 55).toInt = (cf 55).toInt from by omega) (show (cf165 59).toInt = (cf 59).toInt from by omega) (show (cf 33).toInt ≤ (cf165 33).toInt from by omega) (show 6 * (cf165 33).toInt ≤ 6 * (cf 33).toInt + (w1 + (w2 - w2)) from by omega) (show (cf 48).toInt ≤ (cf165 48).toInt from by omega) (show 6 * (cf165 48).toInt ≤ 6 * (cf 48).toInt + (w1 + (w2 - w2)) from by omega) (show (cf 54).toInt ≤ (cf165 54).toInt from by omega) (show (cf 42).toInt ≤ (cf165 42).toInt from by omega) (show (cf165 54).toInt - (cf 54).toInt ≤ 4 * ((cf165 42).toInt - (cf 42).toInt) from by omega) (show (cf165 54).toInt - (cf 54).toInt ≤ 4096 * ((cf165 48).toInt - (cf 48).toInt) from by omega) (show (cf165 42).toInt - (cf 42).toInt ≤ 4096 * ((cf165 48).toInt - (cf 48).toInt) from by omega) (show KnT (tf 6).toInt ca (cf165 33).toInt from (KnT.eq hkt (by omega))) (show KnS ca (cf165 33).toInt (cf165 48).toInt ys from (KnS.eq hks (by omega) (by omega))) (show CaG ca ca (cf 33).toInt (cf 48).toInt from (hcg.le (by omega) (by omega))) (show SyR ca ys (cf165 48).toInt (cf165 54).toInt tx from (SyR.eq hsr (by omega) (by omega))) (show Ann na ma0 ma164 from han) (show FrC lo hi ma ma164 from hfc) (show (cf165 33).toInt = (cf 33).toInt from by omega) (show z184.toInt = (cf 45).toInt + 1 from by omega) (show (cf165 33).toInt = (cf 33).toInt from by omega) (show (cf165 37).toInt = (cf 37).toInt from by omega) (show 0 ≤ (0 : Int) from by omega) (show (0 : Int) ≤ 1 from by omega) (show m1 ≤ m1 from by omega) (show m1 ≤ hi from by omega) (show 0 ≤ w2 from by omega) (show w2 ≤ w2 from by omega) (show 0 ≤ 0 from by omega) (show ZTe (upd (upd cf165 37 (cf165 33)) 45 z184) ta ca na ma0 (cf165 48).toInt ys nf ma164 (p0.toInt + 1) m1 (na 17 p0.toNatClampNeg) 0 from (by rw [← ha_z161]; exact ZTe.to hty_z161 (fun q => by rw [pk_un (by decide)] at q; rw [pk_un (by decide)] at q; omega) (by omega) (Int.le_refl _) (Int.le_refl _) rfl)) (show RvS ta (tf 6).toInt na ma0 d m1 hi w2 z185 from (by rw [ha_z185]; exact hrsA)) (show RlD na (ma0 18 p0.toNatClampNeg) z185 0 from (by rw [ha_z185]; exact rld_0)) (show ZTs (upd (upd cf165 37 (cf165 33)) 45 z184) ta ca na ma0 (cf165 48).toInt ys nf ma164 m1 m1 (ma0 18 p0.toNatClampNeg) z185 (if tgv (cf 44).toInt (cf 45).toInt = 4 then 4 else 3) from (zts_0 ha_z185.symm)) (show hi - m1 < ((((hi - m1).toNat + 1 : Nat) : Int) : Int) from by omega) hw (lv_sub hl [4, 5, 3, 2, 1, 0] rfl)
