/-! THE LAW'S BODY: what it uses of the room, what lies outside, each of its calls in turn -/
def Rm (j : Nat) (F : Int) (LL a b cells slots : Nat) : Prop := ∃ m : Nat, m ≤ j ∧ F ≤ 20 * (m : Int) ∧ cells + a ≤ 7000 + 700 * (j - m) + LL ∧ slots + b ≤ 2530000 + 6300 * (j - m) + 13 * LL
theorem rm_gr {j LL a b LL9 a9 b9 cells slots k n k2 n2 : Nat} {F F9 : Int} (h : Rm j F LL a b cells slots) (g : Gr F LL a b F9 LL9 a9 b9 k n) (h1 : k2 ≤ 1) (h2 : n2 ≤ 6) : Rm (j + 1) F9 LL9 a9 b9 (cells + k + k2) (slots + n + n2) := by
  obtain ⟨m, m1, m2, m3, m4⟩ := h
  obtain ⟨g1, g2, g3, g4⟩ := g
  exact ⟨m, by omega, by omega, by omega, by omega⟩
theorem rm_grF {j LL a b LL9 a9 b9 cells slots k n : Nat} {F F9 : Int} (h : Rm j F LL a b cells slots) (g : GrF F LL a b F9 LL9 a9 b9 k n) : Rm (j + 1) F9 LL9 a9 b9 (cells + k + 0) (slots + n + 0) := by
  rcases g with g | ⟨g1, g2, g3, g4, g5, g6⟩
  · exact rm_gr h g (by omega) (by omega)
  · obtain ⟨m, m1, m2, m3, m4⟩ := h
    exact ⟨m + 1, by omega, by omega, by omega, by omega⟩
theorem rm_grT {j LL a b LL9 a9 b9 cells slots k n k2 n2 : Nat} {F F9 : Int} (h0 : 0 ≤ F) (h : Rm j F LL a b cells slots) (g : GrT F LL a b F9 LL9 a9 b9 k n) (h1 : k2 ≤ 1) (h2 : n2 ≤ 6) : Rm (j + 1) F9 LL9 a9 b9 (cells + k + k2) (slots + n + n2) := by
  rcases g with g | ⟨g1, g2, g3, g4, g5, g6, g7, g8⟩
  · exact rm_gr h g h1 h2
  · obtain ⟨m, m1, m2, m3, m4⟩ := h
    refine ⟨0, by omega, by omega, ?_, ?_⟩
    · rcases Nat.eq_zero_or_pos m with z | z
      · subst z; omega
      · omega
    · rcases Nat.eq_zero_or_pos m with z | z
      · subst z; omega
      · rcases g8 with g8 | g8
        · omega
        · omega
theorem nd_le1 (o : Option Nat) : nd o ≤ 1 := by cases o with
  | none => exact Nat.le_refl _
  | some x => exact Nat.zero_le _
theorem ndS_le (n : Nat) (o : Nat → Option Nat) : ndS n o ≤ n := by
  induction n with
  | zero => exact Nat.le_refl _
  | succ n ih => have := nd_le1 (o n); show ndS n o + nd (o n) ≤ n + 1; omega
theorem CI.bd {cs : Nat → ClassId} {em xh sn9 : Nat} {sb : Nat → Int32} {F : Int} {X : KS} {LL a b : Nat} {C : va_W} (h : CI cs em xh sn9 sb F X LL a b C) : 0 ≤ F ∧ F ≤ 2048 ∧ LL ≤ 10000 := by
  obtain ⟨v, -, ok, -, h1, h2, h3, -, -, -⟩ := h
  have h9 := ok.nm.2.2.2.1
  exact ⟨h1, h2, by omega⟩
theorem rm_room {j LL a b cells slots : Nat} {F : Int} (h : Rm j F LL a b cells slots) (hj : j ≤ 512) (hL : LL ≤ 10000) : cells + 1 ≤ 601024 ∧ slots + 6 ≤ 7293034 ∧ (j ≤ 511 → cells + 145010 ≤ 601024 ∧ slots + 1370000 ≤ 7293034 ∧ cells + (a + 1) ≤ 601024 ∧ slots + (b + 6) ≤ 7293034) := by
  obtain ⟨m, m1, m2, m3, m4⟩ := h
  exact ⟨by omega, by omega, fun _ => ⟨by omega, by omega, by omega, by omega⟩⟩
abbrev LO (A : Nat → Prop) (s : State) (l : Launch) (em mi gw sk st sn9 : Nat) (sb : Nat → Int32) (sK : Nat → Nat → Nat) (mk mt : Nat) (mb : Nat → Int32) : Prop := (l.flags = pinnedFlags ++ [noTraceFlag]) ∧ ((fun A U H => (oN A U H) ∧ (oE A em U H) ∧ (va_Mi "[Ljava/lang/Object;" mi U) ∧ (oGW A gw U H) ∧ (vk_R "HomeSystem$Tokens" 127 "(){}[],;:?=|^&<>+-*/%!~" sk U) ∧ (oZ A U H) ∧ (oS A sk st sn9 sb U H)) A s s.heap) ∧ (sn9 ≤ 1000000) ∧ (oK sK A s s.heap) ∧ (oLW A s s.heap) ∧ (vk_R "HomeSystemModel$Program" 688 "main" mk s ∧ oS A mk mt 4 mb s s.heap) ∧ (∀ j : Nat, j < 4 → mnW[j]? = some (mb j).toInt)
theorem LO.lf {A : Nat → Prop} {s : State} {l : Launch} {em mi gw sk st sn9 : Nat} {sb : Nat → Int32} {sK : Nat → Nat → Nat} {mk mt : Nat} {mb : Nat → Int32} (h : LO A s l em mi gw sk st sn9 sb sK mk mt mb) : l.flags = pinnedFlags ++ [noTraceFlag] := h.1
theorem LO.tx {A : Nat → Prop} {s : State} {l : Launch} {em mi gw sk st sn9 : Nat} {sb : Nat → Int32} {sK : Nat → Nat → Nat} {mk mt : Nat} {mb : Nat → Int32} (h : LO A s l em mi gw sk st sn9 sb sK mk mt mb) : (fun A U H => (oN A U H) ∧ (oE A em U H) ∧ (va_Mi "[Ljava/lang/Object;" mi U) ∧ (oGW A gw U H) ∧ (vk_R "HomeSystem$Tokens" 127 "(){}[],;:?=|^&<>+-*/%!~" sk U) ∧ (oZ A U H) ∧ (oS A sk st sn9 sb U H)) A s s.heap := h.2.1
theorem LO.sn {A : Nat → Prop} {s : State} {l : Launch} {em mi gw sk st sn9 : Nat} {sb : Nat → Int32} {sK : Nat → Nat → Nat} {mk mt : Nat} {mb : Nat → Int32} (h : LO A s l em mi gw sk st sn9 sb sK mk mt mb) : sn9 ≤ 1000000 := h.2.2.1
theorem LO.k {A : Nat → Prop} {s : State} {l : Launch} {em mi gw sk st sn9 : Nat} {sb : Nat → Int32} {sK : Nat → Nat → Nat} {mk mt : Nat} {mb : Nat → Int32} (h : LO A s l em mi gw sk st sn9 sb sK mk mt mb) : oK sK A s s.heap := h.2.2.2.1
theorem LO.w {A : Nat → Prop} {s : State} {l : Launch} {em mi gw sk st sn9 : Nat} {sb : Nat → Int32} {sK : Nat → Nat → Nat} {mk mt : Nat} {mb : Nat → Int32} (h : LO A s l em mi gw sk st sn9 sb sK mk mt mb) : oLW A s s.heap := h.2.2.2.2.1
theorem LO.mn {A : Nat → Prop} {s : State} {l : Launch} {em mi gw sk st sn9 : Nat} {sb : Nat → Int32} {sK : Nat → Nat → Nat} {mk mt : Nat} {mb : Nat → Int32} (h : LO A s l em mi gw sk st sn9 sb sK mk mt mb) : vk_R "HomeSystemModel$Program" 688 "main" mk s ∧ oS A mk mt 4 mb s s.heap := h.2.2.2.2.2.1
theorem LO.mw {A : Nat → Prop} {s : State} {l : Launch} {em mi gw sk st sn9 : Nat} {sb : Nat → Int32} {sK : Nat → Nat → Nat} {mk mt : Nat} {mb : Nat → Int32} (h : LO A s l em mi gw sk st sn9 sb sK mk mt mb) : ∀ j : Nat, j < 4 → mnW[j]? = some (mb j).toInt := h.2.2.2.2.2.2
abbrev b_HomeSystemLaw_law : ByteArray := code
def y_HomeSystemLaw_law : MethodName := ⟨"HomeSystemLaw", "law", "([I)Z"⟩
theorem d_HomeSystemLaw_law_0 : decode b_HomeSystemLaw_law 0 = .ok (.new 8, 3) := by decide +kernel
theorem d_HomeSystemLaw_law_3 : decode b_HomeSystemLaw_law 3 = .ok (.dup, 1) := by decide +kernel
theorem d_HomeSystemLaw_law_4 : decode b_HomeSystemLaw_law 4 = .ok (.invokespecial 63, 3) := by decide +kernel
theorem d_HomeSystemLaw_law_7 : decode b_HomeSystemLaw_law 7 = .ok (.astore_n 1, 1) := by decide +kernel
theorem d_HomeSystemLaw_law_8 : decode b_HomeSystemLaw_law 8 = .ok (.new 64, 3) := by decide +kernel
theorem d_HomeSystemLaw_law_11 : decode b_HomeSystemLaw_law 11 = .ok (.dup, 1) := by decide +kernel
theorem d_HomeSystemLaw_law_12 : decode b_HomeSystemLaw_law 12 = .ok (.invokespecial 66, 3) := by decide +kernel
theorem d_HomeSystemLaw_law_15 : decode b_HomeSystemLaw_law 15 = .ok (.astore_n 2, 1) := by decide +kernel
theorem d_HomeSystemLaw_law_16 : decode b_HomeSystemLaw_law 16 = .ok (.iconst 1, 1) := by decide +kernel
theorem d_HomeSystemLaw_law_17 : decode b_HomeSystemLaw_law 17 = .ok (.newarray .long, 2) := by decide +kernel
theorem d_HomeSystemLaw_law_19 : decode b_HomeSystemLaw_law 19 = .ok (.astore_n 3, 1) := by decide +kernel
theorem d_HomeSystemLaw_law_20 : decode b_HomeSystemLaw_law 20 = .ok (.iconst 0, 1) := by decide +kernel
theorem d_HomeSystemLaw_law_21 : decode b_HomeSystemLaw_law 21 = .ok (.istore 4, 2) := by decide +kernel
theorem d_HomeSystemLaw_law_23 : decode b_HomeSystemLaw_law 23 = .ok (.iload 4, 2) := by decide +kernel
theorem d_HomeSystemLaw_law_25 : decode b_HomeSystemLaw_law 25 = .ok (.aload_n 0, 1) := by decide +kernel
theorem d_HomeSystemLaw_law_26 : decode b_HomeSystemLaw_law 26 = .ok (.arraylength, 1) := by decide +kernel
theorem d_HomeSystemLaw_law_27 : decode b_HomeSystemLaw_law 27 = .ok (.bipush 6, 2) := by decide +kernel
theorem d_HomeSystemLaw_law_29 : decode b_HomeSystemLaw_law 29 = .ok (.isub, 1) := by decide +kernel
theorem d_HomeSystemLaw_law_30 : decode b_HomeSystemLaw_law 30 = .ok (.if_icmp .gt 640, 3) := by decide +kernel
theorem d_HomeSystemLaw_law_33 : decode b_HomeSystemLaw_law 33 = .ok (.aload_n 0, 1) := by decide +kernel
theorem d_HomeSystemLaw_law_34 : decode b_HomeSystemLaw_law 34 = .ok (.iload 4, 2) := by decide +kernel
theorem d_HomeSystemLaw_law_36 : decode b_HomeSystemLaw_law 36 = .ok (.iaload, 1) := by decide +kernel
theorem d_HomeSystemLaw_law_37 : decode b_HomeSystemLaw_law 37 = .ok (.bipush 31, 2) := by decide +kernel
theorem d_HomeSystemLaw_law_39 : decode b_HomeSystemLaw_law 39 = .ok (.iand, 1) := by decide +kernel
theorem d_HomeSystemLaw_law_40 : decode b_HomeSystemLaw_law 40 = .ok (.tableswitch 624 0 16 #[84, 157, 182, 210, 223, 251, 276, 340, 368, 396, 424, 464, 520, 548, 585, 598, 611], 84) := by decide +kernel
theorem d_HomeSystemLaw_law_124 : decode b_HomeSystemLaw_law 124 = .ok (.aload_n 1, 1) := by decide +kernel
theorem d_HomeSystemLaw_law_125 : decode b_HomeSystemLaw_law 125 = .ok (.aload_n 0, 1) := by decide +kernel
theorem d_HomeSystemLaw_law_126 : decode b_HomeSystemLaw_law 126 = .ok (.iload 4, 2) := by decide +kernel
theorem d_HomeSystemLaw_law_128 : decode b_HomeSystemLaw_law 128 = .ok (.iconst 1, 1) := by decide +kernel
theorem d_HomeSystemLaw_law_129 : decode b_HomeSystemLaw_law 129 = .ok (.iadd, 1) := by decide +kernel
theorem d_HomeSystemLaw_law_130 : decode b_HomeSystemLaw_law 130 = .ok (.iaload, 1) := by decide +kernel
theorem d_HomeSystemLaw_law_131 : decode b_HomeSystemLaw_law 131 = .ok (.aload_n 0, 1) := by decide +kernel
theorem d_HomeSystemLaw_law_132 : decode b_HomeSystemLaw_law 132 = .ok (.iload 4, 2) := by decide +kernel
theorem d_HomeSystemLaw_law_134 : decode b_HomeSystemLaw_law 134 = .ok (.iconst 2, 1) := by decide +kernel
theorem d_HomeSystemLaw_law_135 : decode b_HomeSystemLaw_law 135 = .ok (.iadd, 1) := by decide +kernel
theorem d_HomeSystemLaw_law_136 : decode b_HomeSystemLaw_law 136 = .ok (.iaload, 1) := by decide +kernel
theorem d_HomeSystemLaw_law_137 : decode b_HomeSystemLaw_law 137 = .ok (.aload_n 0, 1) := by decide +kernel
theorem d_HomeSystemLaw_law_138 : decode b_HomeSystemLaw_law 138 = .ok (.iload 4, 2) := by decide +kernel
theorem d_HomeSystemLaw_law_140 : decode b_HomeSystemLaw_law 140 = .ok (.iconst 3, 1) := by decide +kernel
theorem d_HomeSystemLaw_law_141 : decode b_HomeSystemLaw_law 141 = .ok (.iadd, 1) := by decide +kernel
theorem d_HomeSystemLaw_law_142 : decode b_HomeSystemLaw_law 142 = .ok (.iaload, 1) := by decide +kernel
theorem d_HomeSystemLaw_law_143 : decode b_HomeSystemLaw_law 143 = .ok (.aload_n 0, 1) := by decide +kernel
theorem d_HomeSystemLaw_law_144 : decode b_HomeSystemLaw_law 144 = .ok (.iload 4, 2) := by decide +kernel
theorem d_HomeSystemLaw_law_146 : decode b_HomeSystemLaw_law 146 = .ok (.iconst 4, 1) := by decide +kernel
theorem d_HomeSystemLaw_law_147 : decode b_HomeSystemLaw_law 147 = .ok (.iadd, 1) := by decide +kernel
theorem d_HomeSystemLaw_law_148 : decode b_HomeSystemLaw_law 148 = .ok (.iaload, 1) := by decide +kernel
theorem d_HomeSystemLaw_law_149 : decode b_HomeSystemLaw_law 149 = .ok (.aload_n 0, 1) := by decide +kernel
theorem d_HomeSystemLaw_law_150 : decode b_HomeSystemLaw_law 150 = .ok (.iload 4, 2) := by decide +kernel
theorem d_HomeSystemLaw_law_152 : decode b_HomeSystemLaw_law 152 = .ok (.iconst 5, 1) := by decide +kernel
theorem d_HomeSystemLaw_law_153 : decode b_HomeSystemLaw_law 153 = .ok (.iadd, 1) := by decide +kernel
theorem d_HomeSystemLaw_law_154 : decode b_HomeSystemLaw_law 154 = .ok (.iaload, 1) := by decide +kernel
theorem d_HomeSystemLaw_law_155 : decode b_HomeSystemLaw_law 155 = .ok (.invokestatic 67, 3) := by decide +kernel
theorem d_HomeSystemLaw_law_158 : decode b_HomeSystemLaw_law 158 = .ok (.istore 5, 2) := by decide +kernel
theorem d_HomeSystemLaw_law_160 : decode b_HomeSystemLaw_law 160 = .ok (.aload_n 2, 1) := by decide +kernel
theorem d_HomeSystemLaw_law_161 : decode b_HomeSystemLaw_law 161 = .ok (.aload_n 0, 1) := by decide +kernel
theorem d_HomeSystemLaw_law_162 : decode b_HomeSystemLaw_law 162 = .ok (.iload 4, 2) := by decide +kernel
theorem d_HomeSystemLaw_law_164 : decode b_HomeSystemLaw_law 164 = .ok (.iconst 1, 1) := by decide +kernel
theorem d_HomeSystemLaw_law_165 : decode b_HomeSystemLaw_law 165 = .ok (.iadd, 1) := by decide +kernel
theorem d_HomeSystemLaw_law_166 : decode b_HomeSystemLaw_law 166 = .ok (.iaload, 1) := by decide +kernel
theorem d_HomeSystemLaw_law_167 : decode b_HomeSystemLaw_law 167 = .ok (.aload_n 0, 1) := by decide +kernel
theorem d_HomeSystemLaw_law_168 : decode b_HomeSystemLaw_law 168 = .ok (.iload 4, 2) := by decide +kernel
theorem d_HomeSystemLaw_law_170 : decode b_HomeSystemLaw_law 170 = .ok (.iconst 2, 1) := by decide +kernel
theorem d_HomeSystemLaw_law_171 : decode b_HomeSystemLaw_law 171 = .ok (.iadd, 1) := by decide +kernel
theorem d_HomeSystemLaw_law_172 : decode b_HomeSystemLaw_law 172 = .ok (.iaload, 1) := by decide +kernel
theorem d_HomeSystemLaw_law_173 : decode b_HomeSystemLaw_law 173 = .ok (.aload_n 0, 1) := by decide +kernel
theorem d_HomeSystemLaw_law_174 : decode b_HomeSystemLaw_law 174 = .ok (.iload 4, 2) := by decide +kernel
theorem d_HomeSystemLaw_law_176 : decode b_HomeSystemLaw_law 176 = .ok (.iconst 3, 1) := by decide +kernel
theorem d_HomeSystemLaw_law_177 : decode b_HomeSystemLaw_law 177 = .ok (.iadd, 1) := by decide +kernel
theorem d_HomeSystemLaw_law_178 : decode b_HomeSystemLaw_law 178 = .ok (.iaload, 1) := by decide +kernel
theorem d_HomeSystemLaw_law_179 : decode b_HomeSystemLaw_law 179 = .ok (.aload_n 0, 1) := by decide +kernel
theorem d_HomeSystemLaw_law_180 : decode b_HomeSystemLaw_law 180 = .ok (.iload 4, 2) := by decide +kernel
theorem d_HomeSystemLaw_law_182 : decode b_HomeSystemLaw_law 182 = .ok (.iconst 4, 1) := by decide +kernel
theorem d_HomeSystemLaw_law_183 : decode b_HomeSystemLaw_law 183 = .ok (.iadd, 1) := by decide +kernel
theorem d_HomeSystemLaw_law_184 : decode b_HomeSystemLaw_law 184 = .ok (.iaload, 1) := by decide +kernel
theorem d_HomeSystemLaw_law_185 : decode b_HomeSystemLaw_law 185 = .ok (.aload_n 0, 1) := by decide +kernel
theorem d_HomeSystemLaw_law_186 : decode b_HomeSystemLaw_law 186 = .ok (.iload 4, 2) := by decide +kernel
theorem d_HomeSystemLaw_law_188 : decode b_HomeSystemLaw_law 188 = .ok (.iconst 5, 1) := by decide +kernel
theorem d_HomeSystemLaw_law_189 : decode b_HomeSystemLaw_law 189 = .ok (.iadd, 1) := by decide +kernel
theorem d_HomeSystemLaw_law_190 : decode b_HomeSystemLaw_law 190 = .ok (.iaload, 1) := by decide +kernel
theorem d_HomeSystemLaw_law_191 : decode b_HomeSystemLaw_law 191 = .ok (.invokevirtual 72, 3) := by decide +kernel
theorem d_HomeSystemLaw_law_194 : decode b_HomeSystemLaw_law 194 = .ok (.goto 470, 3) := by decide +kernel
theorem d_HomeSystemLaw_law_197 : decode b_HomeSystemLaw_law 197 = .ok (.aload_n 1, 1) := by decide +kernel
theorem d_HomeSystemLaw_law_198 : decode b_HomeSystemLaw_law 198 = .ok (.aload_n 0, 1) := by decide +kernel
theorem d_HomeSystemLaw_law_199 : decode b_HomeSystemLaw_law 199 = .ok (.iload 4, 2) := by decide +kernel
theorem d_HomeSystemLaw_law_201 : decode b_HomeSystemLaw_law 201 = .ok (.iconst 1, 1) := by decide +kernel
theorem d_HomeSystemLaw_law_202 : decode b_HomeSystemLaw_law 202 = .ok (.iadd, 1) := by decide +kernel
theorem d_HomeSystemLaw_law_203 : decode b_HomeSystemLaw_law 203 = .ok (.iaload, 1) := by decide +kernel
theorem d_HomeSystemLaw_law_204 : decode b_HomeSystemLaw_law 204 = .ok (.invokestatic 73, 3) := by decide +kernel
theorem d_HomeSystemLaw_law_207 : decode b_HomeSystemLaw_law 207 = .ok (.istore 5, 2) := by decide +kernel
theorem d_HomeSystemLaw_law_209 : decode b_HomeSystemLaw_law 209 = .ok (.aload_n 2, 1) := by decide +kernel
theorem d_HomeSystemLaw_law_210 : decode b_HomeSystemLaw_law 210 = .ok (.aload_n 0, 1) := by decide +kernel
theorem d_HomeSystemLaw_law_211 : decode b_HomeSystemLaw_law 211 = .ok (.iload 4, 2) := by decide +kernel
theorem d_HomeSystemLaw_law_213 : decode b_HomeSystemLaw_law 213 = .ok (.iconst 1, 1) := by decide +kernel
theorem d_HomeSystemLaw_law_214 : decode b_HomeSystemLaw_law 214 = .ok (.iadd, 1) := by decide +kernel
theorem d_HomeSystemLaw_law_215 : decode b_HomeSystemLaw_law 215 = .ok (.iaload, 1) := by decide +kernel
theorem d_HomeSystemLaw_law_216 : decode b_HomeSystemLaw_law 216 = .ok (.invokevirtual 76, 3) := by decide +kernel
theorem d_HomeSystemLaw_law_219 : decode b_HomeSystemLaw_law 219 = .ok (.goto 445, 3) := by decide +kernel
theorem d_HomeSystemLaw_law_222 : decode b_HomeSystemLaw_law 222 = .ok (.aload_n 1, 1) := by decide +kernel
theorem d_HomeSystemLaw_law_223 : decode b_HomeSystemLaw_law 223 = .ok (.aload_n 0, 1) := by decide +kernel
theorem d_HomeSystemLaw_law_224 : decode b_HomeSystemLaw_law 224 = .ok (.iload 4, 2) := by decide +kernel
theorem d_HomeSystemLaw_law_226 : decode b_HomeSystemLaw_law 226 = .ok (.iconst 1, 1) := by decide +kernel
theorem d_HomeSystemLaw_law_227 : decode b_HomeSystemLaw_law 227 = .ok (.iadd, 1) := by decide +kernel
theorem d_HomeSystemLaw_law_228 : decode b_HomeSystemLaw_law 228 = .ok (.iaload, 1) := by decide +kernel
theorem d_HomeSystemLaw_law_229 : decode b_HomeSystemLaw_law 229 = .ok (.aload_n 3, 1) := by decide +kernel
theorem d_HomeSystemLaw_law_230 : decode b_HomeSystemLaw_law 230 = .ok (.invokestatic 77, 3) := by decide +kernel
theorem d_HomeSystemLaw_law_233 : decode b_HomeSystemLaw_law 233 = .ok (.istore 5, 2) := by decide +kernel
theorem d_HomeSystemLaw_law_235 : decode b_HomeSystemLaw_law 235 = .ok (.aload_n 2, 1) := by decide +kernel
theorem d_HomeSystemLaw_law_236 : decode b_HomeSystemLaw_law 236 = .ok (.aload_n 0, 1) := by decide +kernel
theorem d_HomeSystemLaw_law_237 : decode b_HomeSystemLaw_law 237 = .ok (.iload 4, 2) := by decide +kernel
theorem d_HomeSystemLaw_law_239 : decode b_HomeSystemLaw_law 239 = .ok (.iconst 1, 1) := by decide +kernel
theorem d_HomeSystemLaw_law_240 : decode b_HomeSystemLaw_law 240 = .ok (.iadd, 1) := by decide +kernel
theorem d_HomeSystemLaw_law_241 : decode b_HomeSystemLaw_law 241 = .ok (.iaload, 1) := by decide +kernel
theorem d_HomeSystemLaw_law_242 : decode b_HomeSystemLaw_law 242 = .ok (.invokevirtual 80, 3) := by decide +kernel
theorem d_HomeSystemLaw_law_245 : decode b_HomeSystemLaw_law 245 = .ok (.istore 6, 2) := by decide +kernel
theorem d_HomeSystemLaw_law_247 : decode b_HomeSystemLaw_law 247 = .ok (.goto 417, 3) := by decide +kernel
theorem d_HomeSystemLaw_law_250 : decode b_HomeSystemLaw_law 250 = .ok (.aload_n 1, 1) := by decide +kernel
theorem d_HomeSystemLaw_law_251 : decode b_HomeSystemLaw_law 251 = .ok (.invokevirtual 81, 3) := by decide +kernel
theorem d_HomeSystemLaw_law_254 : decode b_HomeSystemLaw_law 254 = .ok (.pop, 1) := by decide +kernel
theorem d_HomeSystemLaw_law_255 : decode b_HomeSystemLaw_law 255 = .ok (.aload_n 2, 1) := by decide +kernel
theorem d_HomeSystemLaw_law_256 : decode b_HomeSystemLaw_law 256 = .ok (.invokevirtual 85, 3) := by decide +kernel
theorem d_HomeSystemLaw_law_259 : decode b_HomeSystemLaw_law 259 = .ok (.pop, 1) := by decide +kernel
theorem d_HomeSystemLaw_law_260 : decode b_HomeSystemLaw_law 260 = .ok (.goto 404, 3) := by decide +kernel
theorem d_HomeSystemLaw_law_263 : decode b_HomeSystemLaw_law 263 = .ok (.aload_n 1, 1) := by decide +kernel
theorem d_HomeSystemLaw_law_264 : decode b_HomeSystemLaw_law 264 = .ok (.aload_n 0, 1) := by decide +kernel
theorem d_HomeSystemLaw_law_265 : decode b_HomeSystemLaw_law 265 = .ok (.iload 4, 2) := by decide +kernel
theorem d_HomeSystemLaw_law_267 : decode b_HomeSystemLaw_law 267 = .ok (.iconst 1, 1) := by decide +kernel
theorem d_HomeSystemLaw_law_268 : decode b_HomeSystemLaw_law 268 = .ok (.iadd, 1) := by decide +kernel
theorem d_HomeSystemLaw_law_269 : decode b_HomeSystemLaw_law 269 = .ok (.iaload, 1) := by decide +kernel
theorem d_HomeSystemLaw_law_270 : decode b_HomeSystemLaw_law 270 = .ok (.aload_n 3, 1) := by decide +kernel
theorem d_HomeSystemLaw_law_271 : decode b_HomeSystemLaw_law 271 = .ok (.invokestatic 86, 3) := by decide +kernel
theorem d_HomeSystemLaw_law_274 : decode b_HomeSystemLaw_law 274 = .ok (.istore 5, 2) := by decide +kernel
theorem d_HomeSystemLaw_law_276 : decode b_HomeSystemLaw_law 276 = .ok (.aload_n 2, 1) := by decide +kernel
theorem d_HomeSystemLaw_law_277 : decode b_HomeSystemLaw_law 277 = .ok (.aload_n 0, 1) := by decide +kernel
theorem d_HomeSystemLaw_law_278 : decode b_HomeSystemLaw_law 278 = .ok (.iload 4, 2) := by decide +kernel
theorem d_HomeSystemLaw_law_280 : decode b_HomeSystemLaw_law 280 = .ok (.iconst 1, 1) := by decide +kernel
theorem d_HomeSystemLaw_law_281 : decode b_HomeSystemLaw_law 281 = .ok (.iadd, 1) := by decide +kernel
theorem d_HomeSystemLaw_law_282 : decode b_HomeSystemLaw_law 282 = .ok (.iaload, 1) := by decide +kernel
theorem d_HomeSystemLaw_law_283 : decode b_HomeSystemLaw_law 283 = .ok (.invokevirtual 88, 3) := by decide +kernel
theorem d_HomeSystemLaw_law_286 : decode b_HomeSystemLaw_law 286 = .ok (.istore 6, 2) := by decide +kernel
theorem d_HomeSystemLaw_law_288 : decode b_HomeSystemLaw_law 288 = .ok (.goto 376, 3) := by decide +kernel
theorem d_HomeSystemLaw_law_291 : decode b_HomeSystemLaw_law 291 = .ok (.aload_n 1, 1) := by decide +kernel
theorem d_HomeSystemLaw_law_292 : decode b_HomeSystemLaw_law 292 = .ok (.aload_n 0, 1) := by decide +kernel
theorem d_HomeSystemLaw_law_293 : decode b_HomeSystemLaw_law 293 = .ok (.iload 4, 2) := by decide +kernel
theorem d_HomeSystemLaw_law_295 : decode b_HomeSystemLaw_law 295 = .ok (.iconst 1, 1) := by decide +kernel
theorem d_HomeSystemLaw_law_296 : decode b_HomeSystemLaw_law 296 = .ok (.iadd, 1) := by decide +kernel
theorem d_HomeSystemLaw_law_297 : decode b_HomeSystemLaw_law 297 = .ok (.iaload, 1) := by decide +kernel
theorem d_HomeSystemLaw_law_298 : decode b_HomeSystemLaw_law 298 = .ok (.invokestatic 89, 3) := by decide +kernel
theorem d_HomeSystemLaw_law_301 : decode b_HomeSystemLaw_law 301 = .ok (.istore 5, 2) := by decide +kernel
theorem d_HomeSystemLaw_law_303 : decode b_HomeSystemLaw_law 303 = .ok (.aload_n 2, 1) := by decide +kernel
theorem d_HomeSystemLaw_law_304 : decode b_HomeSystemLaw_law 304 = .ok (.aload_n 0, 1) := by decide +kernel
theorem d_HomeSystemLaw_law_305 : decode b_HomeSystemLaw_law 305 = .ok (.iload 4, 2) := by decide +kernel
theorem d_HomeSystemLaw_law_307 : decode b_HomeSystemLaw_law 307 = .ok (.iconst 1, 1) := by decide +kernel
theorem d_HomeSystemLaw_law_308 : decode b_HomeSystemLaw_law 308 = .ok (.iadd, 1) := by decide +kernel
theorem d_HomeSystemLaw_law_309 : decode b_HomeSystemLaw_law 309 = .ok (.iaload, 1) := by decide +kernel
theorem d_HomeSystemLaw_law_310 : decode b_HomeSystemLaw_law 310 = .ok (.invokevirtual 91, 3) := by decide +kernel
theorem d_HomeSystemLaw_law_313 : decode b_HomeSystemLaw_law 313 = .ok (.goto 351, 3) := by decide +kernel
theorem d_HomeSystemLaw_law_316 : decode b_HomeSystemLaw_law 316 = .ok (.aload_n 1, 1) := by decide +kernel
theorem d_HomeSystemLaw_law_317 : decode b_HomeSystemLaw_law 317 = .ok (.aload_n 0, 1) := by decide +kernel
theorem d_HomeSystemLaw_law_318 : decode b_HomeSystemLaw_law 318 = .ok (.iload 4, 2) := by decide +kernel
theorem d_HomeSystemLaw_law_320 : decode b_HomeSystemLaw_law 320 = .ok (.iconst 1, 1) := by decide +kernel
theorem d_HomeSystemLaw_law_321 : decode b_HomeSystemLaw_law 321 = .ok (.iadd, 1) := by decide +kernel
theorem d_HomeSystemLaw_law_322 : decode b_HomeSystemLaw_law 322 = .ok (.iaload, 1) := by decide +kernel
theorem d_HomeSystemLaw_law_323 : decode b_HomeSystemLaw_law 323 = .ok (.aload_n 0, 1) := by decide +kernel
theorem d_HomeSystemLaw_law_324 : decode b_HomeSystemLaw_law 324 = .ok (.iload 4, 2) := by decide +kernel
theorem d_HomeSystemLaw_law_326 : decode b_HomeSystemLaw_law 326 = .ok (.iconst 2, 1) := by decide +kernel
theorem d_HomeSystemLaw_law_327 : decode b_HomeSystemLaw_law 327 = .ok (.iadd, 1) := by decide +kernel
theorem d_HomeSystemLaw_law_328 : decode b_HomeSystemLaw_law 328 = .ok (.iaload, 1) := by decide +kernel
theorem d_HomeSystemLaw_law_329 : decode b_HomeSystemLaw_law 329 = .ok (.aload_n 0, 1) := by decide +kernel
theorem d_HomeSystemLaw_law_330 : decode b_HomeSystemLaw_law 330 = .ok (.iload 4, 2) := by decide +kernel
theorem d_HomeSystemLaw_law_332 : decode b_HomeSystemLaw_law 332 = .ok (.iconst 3, 1) := by decide +kernel
theorem d_HomeSystemLaw_law_333 : decode b_HomeSystemLaw_law 333 = .ok (.iadd, 1) := by decide +kernel
theorem d_HomeSystemLaw_law_334 : decode b_HomeSystemLaw_law 334 = .ok (.iaload, 1) := by decide +kernel
theorem d_HomeSystemLaw_law_335 : decode b_HomeSystemLaw_law 335 = .ok (.aload_n 0, 1) := by decide +kernel
theorem d_HomeSystemLaw_law_336 : decode b_HomeSystemLaw_law 336 = .ok (.iload 4, 2) := by decide +kernel
theorem d_HomeSystemLaw_law_338 : decode b_HomeSystemLaw_law 338 = .ok (.iconst 4, 1) := by decide +kernel
theorem d_HomeSystemLaw_law_339 : decode b_HomeSystemLaw_law 339 = .ok (.iadd, 1) := by decide +kernel
theorem d_HomeSystemLaw_law_340 : decode b_HomeSystemLaw_law 340 = .ok (.iaload, 1) := by decide +kernel
theorem d_HomeSystemLaw_law_341 : decode b_HomeSystemLaw_law 341 = .ok (.aload_n 3, 1) := by decide +kernel
theorem d_HomeSystemLaw_law_342 : decode b_HomeSystemLaw_law 342 = .ok (.invokestatic 92, 3) := by decide +kernel
theorem d_HomeSystemLaw_law_345 : decode b_HomeSystemLaw_law 345 = .ok (.istore 5, 2) := by decide +kernel
theorem d_HomeSystemLaw_law_347 : decode b_HomeSystemLaw_law 347 = .ok (.aload_n 2, 1) := by decide +kernel
theorem d_HomeSystemLaw_law_348 : decode b_HomeSystemLaw_law 348 = .ok (.aload_n 0, 1) := by decide +kernel
theorem d_HomeSystemLaw_law_349 : decode b_HomeSystemLaw_law 349 = .ok (.iload 4, 2) := by decide +kernel
theorem d_HomeSystemLaw_law_351 : decode b_HomeSystemLaw_law 351 = .ok (.iconst 1, 1) := by decide +kernel
theorem d_HomeSystemLaw_law_352 : decode b_HomeSystemLaw_law 352 = .ok (.iadd, 1) := by decide +kernel
theorem d_HomeSystemLaw_law_353 : decode b_HomeSystemLaw_law 353 = .ok (.iaload, 1) := by decide +kernel
theorem d_HomeSystemLaw_law_354 : decode b_HomeSystemLaw_law 354 = .ok (.aload_n 0, 1) := by decide +kernel
theorem d_HomeSystemLaw_law_355 : decode b_HomeSystemLaw_law 355 = .ok (.iload 4, 2) := by decide +kernel
theorem d_HomeSystemLaw_law_357 : decode b_HomeSystemLaw_law 357 = .ok (.iconst 2, 1) := by decide +kernel
theorem d_HomeSystemLaw_law_358 : decode b_HomeSystemLaw_law 358 = .ok (.iadd, 1) := by decide +kernel
theorem d_HomeSystemLaw_law_359 : decode b_HomeSystemLaw_law 359 = .ok (.iaload, 1) := by decide +kernel
theorem d_HomeSystemLaw_law_360 : decode b_HomeSystemLaw_law 360 = .ok (.aload_n 0, 1) := by decide +kernel
theorem d_HomeSystemLaw_law_361 : decode b_HomeSystemLaw_law 361 = .ok (.iload 4, 2) := by decide +kernel
theorem d_HomeSystemLaw_law_363 : decode b_HomeSystemLaw_law 363 = .ok (.iconst 3, 1) := by decide +kernel
theorem d_HomeSystemLaw_law_364 : decode b_HomeSystemLaw_law 364 = .ok (.iadd, 1) := by decide +kernel
theorem d_HomeSystemLaw_law_365 : decode b_HomeSystemLaw_law 365 = .ok (.iaload, 1) := by decide +kernel
theorem d_HomeSystemLaw_law_366 : decode b_HomeSystemLaw_law 366 = .ok (.aload_n 0, 1) := by decide +kernel
theorem d_HomeSystemLaw_law_367 : decode b_HomeSystemLaw_law 367 = .ok (.iload 4, 2) := by decide +kernel
theorem d_HomeSystemLaw_law_369 : decode b_HomeSystemLaw_law 369 = .ok (.iconst 4, 1) := by decide +kernel
theorem d_HomeSystemLaw_law_370 : decode b_HomeSystemLaw_law 370 = .ok (.iadd, 1) := by decide +kernel
theorem d_HomeSystemLaw_law_371 : decode b_HomeSystemLaw_law 371 = .ok (.iaload, 1) := by decide +kernel
theorem d_HomeSystemLaw_law_372 : decode b_HomeSystemLaw_law 372 = .ok (.invokevirtual 95, 3) := by decide +kernel
theorem d_HomeSystemLaw_law_375 : decode b_HomeSystemLaw_law 375 = .ok (.istore 6, 2) := by decide +kernel
theorem d_HomeSystemLaw_law_377 : decode b_HomeSystemLaw_law 377 = .ok (.goto 287, 3) := by decide +kernel
theorem d_HomeSystemLaw_law_380 : decode b_HomeSystemLaw_law 380 = .ok (.aload_n 1, 1) := by decide +kernel
theorem d_HomeSystemLaw_law_381 : decode b_HomeSystemLaw_law 381 = .ok (.aload_n 0, 1) := by decide +kernel
theorem d_HomeSystemLaw_law_382 : decode b_HomeSystemLaw_law 382 = .ok (.iload 4, 2) := by decide +kernel
theorem d_HomeSystemLaw_law_384 : decode b_HomeSystemLaw_law 384 = .ok (.iconst 1, 1) := by decide +kernel
theorem d_HomeSystemLaw_law_385 : decode b_HomeSystemLaw_law 385 = .ok (.iadd, 1) := by decide +kernel
theorem d_HomeSystemLaw_law_386 : decode b_HomeSystemLaw_law 386 = .ok (.iaload, 1) := by decide +kernel
theorem d_HomeSystemLaw_law_387 : decode b_HomeSystemLaw_law 387 = .ok (.aload_n 3, 1) := by decide +kernel
theorem d_HomeSystemLaw_law_388 : decode b_HomeSystemLaw_law 388 = .ok (.invokestatic 96, 3) := by decide +kernel
theorem d_HomeSystemLaw_law_391 : decode b_HomeSystemLaw_law 391 = .ok (.istore 5, 2) := by decide +kernel
theorem d_HomeSystemLaw_law_393 : decode b_HomeSystemLaw_law 393 = .ok (.aload_n 2, 1) := by decide +kernel
theorem d_HomeSystemLaw_law_394 : decode b_HomeSystemLaw_law 394 = .ok (.aload_n 0, 1) := by decide +kernel
theorem d_HomeSystemLaw_law_395 : decode b_HomeSystemLaw_law 395 = .ok (.iload 4, 2) := by decide +kernel
theorem d_HomeSystemLaw_law_397 : decode b_HomeSystemLaw_law 397 = .ok (.iconst 1, 1) := by decide +kernel
theorem d_HomeSystemLaw_law_398 : decode b_HomeSystemLaw_law 398 = .ok (.iadd, 1) := by decide +kernel
theorem d_HomeSystemLaw_law_399 : decode b_HomeSystemLaw_law 399 = .ok (.iaload, 1) := by decide +kernel
theorem d_HomeSystemLaw_law_400 : decode b_HomeSystemLaw_law 400 = .ok (.invokevirtual 98, 3) := by decide +kernel
theorem d_HomeSystemLaw_law_403 : decode b_HomeSystemLaw_law 403 = .ok (.istore 6, 2) := by decide +kernel
theorem d_HomeSystemLaw_law_405 : decode b_HomeSystemLaw_law 405 = .ok (.goto 259, 3) := by decide +kernel
theorem d_HomeSystemLaw_law_408 : decode b_HomeSystemLaw_law 408 = .ok (.aload_n 1, 1) := by decide +kernel
theorem d_HomeSystemLaw_law_409 : decode b_HomeSystemLaw_law 409 = .ok (.aload_n 0, 1) := by decide +kernel
theorem d_HomeSystemLaw_law_410 : decode b_HomeSystemLaw_law 410 = .ok (.iload 4, 2) := by decide +kernel
theorem d_HomeSystemLaw_law_412 : decode b_HomeSystemLaw_law 412 = .ok (.iconst 1, 1) := by decide +kernel
theorem d_HomeSystemLaw_law_413 : decode b_HomeSystemLaw_law 413 = .ok (.iadd, 1) := by decide +kernel
theorem d_HomeSystemLaw_law_414 : decode b_HomeSystemLaw_law 414 = .ok (.iaload, 1) := by decide +kernel
theorem d_HomeSystemLaw_law_415 : decode b_HomeSystemLaw_law 415 = .ok (.aload_n 3, 1) := by decide +kernel
theorem d_HomeSystemLaw_law_416 : decode b_HomeSystemLaw_law 416 = .ok (.invokestatic 99, 3) := by decide +kernel
theorem d_HomeSystemLaw_law_419 : decode b_HomeSystemLaw_law 419 = .ok (.istore 5, 2) := by decide +kernel
theorem d_HomeSystemLaw_law_421 : decode b_HomeSystemLaw_law 421 = .ok (.aload_n 2, 1) := by decide +kernel
theorem d_HomeSystemLaw_law_422 : decode b_HomeSystemLaw_law 422 = .ok (.aload_n 0, 1) := by decide +kernel
theorem d_HomeSystemLaw_law_423 : decode b_HomeSystemLaw_law 423 = .ok (.iload 4, 2) := by decide +kernel
theorem d_HomeSystemLaw_law_425 : decode b_HomeSystemLaw_law 425 = .ok (.iconst 1, 1) := by decide +kernel
theorem d_HomeSystemLaw_law_426 : decode b_HomeSystemLaw_law 426 = .ok (.iadd, 1) := by decide +kernel
theorem d_HomeSystemLaw_law_427 : decode b_HomeSystemLaw_law 427 = .ok (.iaload, 1) := by decide +kernel
theorem d_HomeSystemLaw_law_428 : decode b_HomeSystemLaw_law 428 = .ok (.invokevirtual 101, 3) := by decide +kernel
theorem d_HomeSystemLaw_law_431 : decode b_HomeSystemLaw_law 431 = .ok (.istore 6, 2) := by decide +kernel
theorem d_HomeSystemLaw_law_433 : decode b_HomeSystemLaw_law 433 = .ok (.goto 231, 3) := by decide +kernel
theorem d_HomeSystemLaw_law_436 : decode b_HomeSystemLaw_law 436 = .ok (.aload_n 1, 1) := by decide +kernel
theorem d_HomeSystemLaw_law_437 : decode b_HomeSystemLaw_law 437 = .ok (.aload_n 0, 1) := by decide +kernel
theorem d_HomeSystemLaw_law_438 : decode b_HomeSystemLaw_law 438 = .ok (.iload 4, 2) := by decide +kernel
theorem d_HomeSystemLaw_law_440 : decode b_HomeSystemLaw_law 440 = .ok (.iconst 1, 1) := by decide +kernel
theorem d_HomeSystemLaw_law_441 : decode b_HomeSystemLaw_law 441 = .ok (.iadd, 1) := by decide +kernel
theorem d_HomeSystemLaw_law_442 : decode b_HomeSystemLaw_law 442 = .ok (.iaload, 1) := by decide +kernel
theorem d_HomeSystemLaw_law_443 : decode b_HomeSystemLaw_law 443 = .ok (.aload_n 3, 1) := by decide +kernel
theorem d_HomeSystemLaw_law_444 : decode b_HomeSystemLaw_law 444 = .ok (.invokestatic 102, 3) := by decide +kernel
theorem d_HomeSystemLaw_law_447 : decode b_HomeSystemLaw_law 447 = .ok (.istore 5, 2) := by decide +kernel
theorem d_HomeSystemLaw_law_449 : decode b_HomeSystemLaw_law 449 = .ok (.aload_n 2, 1) := by decide +kernel
theorem d_HomeSystemLaw_law_450 : decode b_HomeSystemLaw_law 450 = .ok (.aload_n 0, 1) := by decide +kernel
theorem d_HomeSystemLaw_law_451 : decode b_HomeSystemLaw_law 451 = .ok (.iload 4, 2) := by decide +kernel
theorem d_HomeSystemLaw_law_453 : decode b_HomeSystemLaw_law 453 = .ok (.iconst 1, 1) := by decide +kernel
theorem d_HomeSystemLaw_law_454 : decode b_HomeSystemLaw_law 454 = .ok (.iadd, 1) := by decide +kernel
theorem d_HomeSystemLaw_law_455 : decode b_HomeSystemLaw_law 455 = .ok (.iaload, 1) := by decide +kernel
theorem d_HomeSystemLaw_law_456 : decode b_HomeSystemLaw_law 456 = .ok (.invokevirtual 104, 3) := by decide +kernel
theorem d_HomeSystemLaw_law_459 : decode b_HomeSystemLaw_law 459 = .ok (.istore 6, 2) := by decide +kernel
theorem d_HomeSystemLaw_law_461 : decode b_HomeSystemLaw_law 461 = .ok (.goto 203, 3) := by decide +kernel
theorem d_HomeSystemLaw_law_464 : decode b_HomeSystemLaw_law 464 = .ok (.aload_n 1, 1) := by decide +kernel
theorem d_HomeSystemLaw_law_465 : decode b_HomeSystemLaw_law 465 = .ok (.aload_n 0, 1) := by decide +kernel
theorem d_HomeSystemLaw_law_466 : decode b_HomeSystemLaw_law 466 = .ok (.iload 4, 2) := by decide +kernel
theorem d_HomeSystemLaw_law_468 : decode b_HomeSystemLaw_law 468 = .ok (.iconst 1, 1) := by decide +kernel
theorem d_HomeSystemLaw_law_469 : decode b_HomeSystemLaw_law 469 = .ok (.iadd, 1) := by decide +kernel
theorem d_HomeSystemLaw_law_470 : decode b_HomeSystemLaw_law 470 = .ok (.iaload, 1) := by decide +kernel
theorem d_HomeSystemLaw_law_471 : decode b_HomeSystemLaw_law 471 = .ok (.aload_n 0, 1) := by decide +kernel
theorem d_HomeSystemLaw_law_472 : decode b_HomeSystemLaw_law 472 = .ok (.iload 4, 2) := by decide +kernel
theorem d_HomeSystemLaw_law_474 : decode b_HomeSystemLaw_law 474 = .ok (.iconst 2, 1) := by decide +kernel
theorem d_HomeSystemLaw_law_475 : decode b_HomeSystemLaw_law 475 = .ok (.iadd, 1) := by decide +kernel
theorem d_HomeSystemLaw_law_476 : decode b_HomeSystemLaw_law 476 = .ok (.iaload, 1) := by decide +kernel
theorem d_HomeSystemLaw_law_477 : decode b_HomeSystemLaw_law 477 = .ok (.aload_n 3, 1) := by decide +kernel
theorem d_HomeSystemLaw_law_478 : decode b_HomeSystemLaw_law 478 = .ok (.invokestatic 105, 3) := by decide +kernel
theorem d_HomeSystemLaw_law_481 : decode b_HomeSystemLaw_law 481 = .ok (.istore 5, 2) := by decide +kernel
theorem d_HomeSystemLaw_law_483 : decode b_HomeSystemLaw_law 483 = .ok (.aload_n 2, 1) := by decide +kernel
theorem d_HomeSystemLaw_law_484 : decode b_HomeSystemLaw_law 484 = .ok (.aload_n 0, 1) := by decide +kernel
theorem d_HomeSystemLaw_law_485 : decode b_HomeSystemLaw_law 485 = .ok (.iload 4, 2) := by decide +kernel
theorem d_HomeSystemLaw_law_487 : decode b_HomeSystemLaw_law 487 = .ok (.iconst 1, 1) := by decide +kernel
theorem d_HomeSystemLaw_law_488 : decode b_HomeSystemLaw_law 488 = .ok (.iadd, 1) := by decide +kernel
theorem d_HomeSystemLaw_law_489 : decode b_HomeSystemLaw_law 489 = .ok (.iaload, 1) := by decide +kernel
theorem d_HomeSystemLaw_law_490 : decode b_HomeSystemLaw_law 490 = .ok (.aload_n 0, 1) := by decide +kernel
theorem d_HomeSystemLaw_law_491 : decode b_HomeSystemLaw_law 491 = .ok (.iload 4, 2) := by decide +kernel
theorem d_HomeSystemLaw_law_493 : decode b_HomeSystemLaw_law 493 = .ok (.iconst 2, 1) := by decide +kernel
theorem d_HomeSystemLaw_law_494 : decode b_HomeSystemLaw_law 494 = .ok (.iadd, 1) := by decide +kernel
theorem d_HomeSystemLaw_law_495 : decode b_HomeSystemLaw_law 495 = .ok (.iaload, 1) := by decide +kernel
theorem d_HomeSystemLaw_law_496 : decode b_HomeSystemLaw_law 496 = .ok (.invokevirtual 108, 3) := by decide +kernel
theorem d_HomeSystemLaw_law_499 : decode b_HomeSystemLaw_law 499 = .ok (.istore 6, 2) := by decide +kernel
theorem d_HomeSystemLaw_law_501 : decode b_HomeSystemLaw_law 501 = .ok (.goto 163, 3) := by decide +kernel
theorem d_HomeSystemLaw_law_504 : decode b_HomeSystemLaw_law 504 = .ok (.aload_n 1, 1) := by decide +kernel
theorem d_HomeSystemLaw_law_505 : decode b_HomeSystemLaw_law 505 = .ok (.aload_n 0, 1) := by decide +kernel
theorem d_HomeSystemLaw_law_506 : decode b_HomeSystemLaw_law 506 = .ok (.iload 4, 2) := by decide +kernel
theorem d_HomeSystemLaw_law_508 : decode b_HomeSystemLaw_law 508 = .ok (.iconst 1, 1) := by decide +kernel
theorem d_HomeSystemLaw_law_509 : decode b_HomeSystemLaw_law 509 = .ok (.iadd, 1) := by decide +kernel
theorem d_HomeSystemLaw_law_510 : decode b_HomeSystemLaw_law 510 = .ok (.iaload, 1) := by decide +kernel
theorem d_HomeSystemLaw_law_511 : decode b_HomeSystemLaw_law 511 = .ok (.aload_n 0, 1) := by decide +kernel
theorem d_HomeSystemLaw_law_512 : decode b_HomeSystemLaw_law 512 = .ok (.iload 4, 2) := by decide +kernel
theorem d_HomeSystemLaw_law_514 : decode b_HomeSystemLaw_law 514 = .ok (.iconst 2, 1) := by decide +kernel
theorem d_HomeSystemLaw_law_515 : decode b_HomeSystemLaw_law 515 = .ok (.iadd, 1) := by decide +kernel
theorem d_HomeSystemLaw_law_516 : decode b_HomeSystemLaw_law 516 = .ok (.iaload, 1) := by decide +kernel
theorem d_HomeSystemLaw_law_517 : decode b_HomeSystemLaw_law 517 = .ok (.ifCond .eq 7, 3) := by decide +kernel
theorem d_HomeSystemLaw_law_520 : decode b_HomeSystemLaw_law 520 = .ok (.iconst 1, 1) := by decide +kernel
theorem d_HomeSystemLaw_law_521 : decode b_HomeSystemLaw_law 521 = .ok (.goto 4, 3) := by decide +kernel
theorem d_HomeSystemLaw_law_524 : decode b_HomeSystemLaw_law 524 = .ok (.iconst 0, 1) := by decide +kernel
theorem d_HomeSystemLaw_law_525 : decode b_HomeSystemLaw_law 525 = .ok (.aload_n 3, 1) := by decide +kernel
theorem d_HomeSystemLaw_law_526 : decode b_HomeSystemLaw_law 526 = .ok (.invokestatic 109, 3) := by decide +kernel
theorem d_HomeSystemLaw_law_529 : decode b_HomeSystemLaw_law 529 = .ok (.istore 5, 2) := by decide +kernel
theorem d_HomeSystemLaw_law_531 : decode b_HomeSystemLaw_law 531 = .ok (.aload_n 2, 1) := by decide +kernel
theorem d_HomeSystemLaw_law_532 : decode b_HomeSystemLaw_law 532 = .ok (.aload_n 0, 1) := by decide +kernel
theorem d_HomeSystemLaw_law_533 : decode b_HomeSystemLaw_law 533 = .ok (.iload 4, 2) := by decide +kernel
theorem d_HomeSystemLaw_law_535 : decode b_HomeSystemLaw_law 535 = .ok (.iconst 1, 1) := by decide +kernel
theorem d_HomeSystemLaw_law_536 : decode b_HomeSystemLaw_law 536 = .ok (.iadd, 1) := by decide +kernel
theorem d_HomeSystemLaw_law_537 : decode b_HomeSystemLaw_law 537 = .ok (.iaload, 1) := by decide +kernel
theorem d_HomeSystemLaw_law_538 : decode b_HomeSystemLaw_law 538 = .ok (.aload_n 0, 1) := by decide +kernel
theorem d_HomeSystemLaw_law_539 : decode b_HomeSystemLaw_law 539 = .ok (.iload 4, 2) := by decide +kernel
theorem d_HomeSystemLaw_law_541 : decode b_HomeSystemLaw_law 541 = .ok (.iconst 2, 1) := by decide +kernel
theorem d_HomeSystemLaw_law_542 : decode b_HomeSystemLaw_law 542 = .ok (.iadd, 1) := by decide +kernel
theorem d_HomeSystemLaw_law_543 : decode b_HomeSystemLaw_law 543 = .ok (.iaload, 1) := by decide +kernel
theorem d_HomeSystemLaw_law_544 : decode b_HomeSystemLaw_law 544 = .ok (.ifCond .eq 7, 3) := by decide +kernel
theorem d_HomeSystemLaw_law_547 : decode b_HomeSystemLaw_law 547 = .ok (.iconst 1, 1) := by decide +kernel
theorem d_HomeSystemLaw_law_548 : decode b_HomeSystemLaw_law 548 = .ok (.goto 4, 3) := by decide +kernel
theorem d_HomeSystemLaw_law_551 : decode b_HomeSystemLaw_law 551 = .ok (.iconst 0, 1) := by decide +kernel
theorem d_HomeSystemLaw_law_552 : decode b_HomeSystemLaw_law 552 = .ok (.invokevirtual 112, 3) := by decide +kernel
theorem d_HomeSystemLaw_law_555 : decode b_HomeSystemLaw_law 555 = .ok (.istore 6, 2) := by decide +kernel
theorem d_HomeSystemLaw_law_557 : decode b_HomeSystemLaw_law 557 = .ok (.goto 107, 3) := by decide +kernel
theorem d_HomeSystemLaw_law_560 : decode b_HomeSystemLaw_law 560 = .ok (.aload_n 1, 1) := by decide +kernel
theorem d_HomeSystemLaw_law_561 : decode b_HomeSystemLaw_law 561 = .ok (.aload_n 0, 1) := by decide +kernel
theorem d_HomeSystemLaw_law_562 : decode b_HomeSystemLaw_law 562 = .ok (.iload 4, 2) := by decide +kernel
theorem d_HomeSystemLaw_law_564 : decode b_HomeSystemLaw_law 564 = .ok (.iconst 1, 1) := by decide +kernel
theorem d_HomeSystemLaw_law_565 : decode b_HomeSystemLaw_law 565 = .ok (.iadd, 1) := by decide +kernel
theorem d_HomeSystemLaw_law_566 : decode b_HomeSystemLaw_law 566 = .ok (.iaload, 1) := by decide +kernel
theorem d_HomeSystemLaw_law_567 : decode b_HomeSystemLaw_law 567 = .ok (.aload_n 3, 1) := by decide +kernel
theorem d_HomeSystemLaw_law_568 : decode b_HomeSystemLaw_law 568 = .ok (.invokestatic 113, 3) := by decide +kernel
theorem d_HomeSystemLaw_law_571 : decode b_HomeSystemLaw_law 571 = .ok (.istore 5, 2) := by decide +kernel
theorem d_HomeSystemLaw_law_573 : decode b_HomeSystemLaw_law 573 = .ok (.aload_n 2, 1) := by decide +kernel
theorem d_HomeSystemLaw_law_574 : decode b_HomeSystemLaw_law 574 = .ok (.aload_n 0, 1) := by decide +kernel
theorem d_HomeSystemLaw_law_575 : decode b_HomeSystemLaw_law 575 = .ok (.iload 4, 2) := by decide +kernel
theorem d_HomeSystemLaw_law_577 : decode b_HomeSystemLaw_law 577 = .ok (.iconst 1, 1) := by decide +kernel
theorem d_HomeSystemLaw_law_578 : decode b_HomeSystemLaw_law 578 = .ok (.iadd, 1) := by decide +kernel
theorem d_HomeSystemLaw_law_579 : decode b_HomeSystemLaw_law 579 = .ok (.iaload, 1) := by decide +kernel
theorem d_HomeSystemLaw_law_580 : decode b_HomeSystemLaw_law 580 = .ok (.invokevirtual 115, 3) := by decide +kernel
theorem d_HomeSystemLaw_law_583 : decode b_HomeSystemLaw_law 583 = .ok (.istore 6, 2) := by decide +kernel
theorem d_HomeSystemLaw_law_585 : decode b_HomeSystemLaw_law 585 = .ok (.goto 79, 3) := by decide +kernel
theorem d_HomeSystemLaw_law_588 : decode b_HomeSystemLaw_law 588 = .ok (.aload_n 1, 1) := by decide +kernel
theorem d_HomeSystemLaw_law_589 : decode b_HomeSystemLaw_law 589 = .ok (.aload_n 0, 1) := by decide +kernel
theorem d_HomeSystemLaw_law_590 : decode b_HomeSystemLaw_law 590 = .ok (.iload 4, 2) := by decide +kernel
theorem d_HomeSystemLaw_law_592 : decode b_HomeSystemLaw_law 592 = .ok (.iconst 1, 1) := by decide +kernel
theorem d_HomeSystemLaw_law_593 : decode b_HomeSystemLaw_law 593 = .ok (.iadd, 1) := by decide +kernel
theorem d_HomeSystemLaw_law_594 : decode b_HomeSystemLaw_law 594 = .ok (.iaload, 1) := by decide +kernel
theorem d_HomeSystemLaw_law_595 : decode b_HomeSystemLaw_law 595 = .ok (.aload_n 0, 1) := by decide +kernel
theorem d_HomeSystemLaw_law_596 : decode b_HomeSystemLaw_law 596 = .ok (.iload 4, 2) := by decide +kernel
theorem d_HomeSystemLaw_law_598 : decode b_HomeSystemLaw_law 598 = .ok (.iconst 2, 1) := by decide +kernel
theorem d_HomeSystemLaw_law_599 : decode b_HomeSystemLaw_law 599 = .ok (.iadd, 1) := by decide +kernel
theorem d_HomeSystemLaw_law_600 : decode b_HomeSystemLaw_law 600 = .ok (.iaload, 1) := by decide +kernel
theorem d_HomeSystemLaw_law_601 : decode b_HomeSystemLaw_law 601 = .ok (.invokestatic 116, 3) := by decide +kernel
theorem d_HomeSystemLaw_law_604 : decode b_HomeSystemLaw_law 604 = .ok (.istore 5, 2) := by decide +kernel
theorem d_HomeSystemLaw_law_606 : decode b_HomeSystemLaw_law 606 = .ok (.aload_n 2, 1) := by decide +kernel
theorem d_HomeSystemLaw_law_607 : decode b_HomeSystemLaw_law 607 = .ok (.aload_n 0, 1) := by decide +kernel
theorem d_HomeSystemLaw_law_608 : decode b_HomeSystemLaw_law 608 = .ok (.iload 4, 2) := by decide +kernel
theorem d_HomeSystemLaw_law_610 : decode b_HomeSystemLaw_law 610 = .ok (.iconst 1, 1) := by decide +kernel
theorem d_HomeSystemLaw_law_611 : decode b_HomeSystemLaw_law 611 = .ok (.iadd, 1) := by decide +kernel
theorem d_HomeSystemLaw_law_612 : decode b_HomeSystemLaw_law 612 = .ok (.iaload, 1) := by decide +kernel
theorem d_HomeSystemLaw_law_613 : decode b_HomeSystemLaw_law 613 = .ok (.aload_n 0, 1) := by decide +kernel
theorem d_HomeSystemLaw_law_614 : decode b_HomeSystemLaw_law 614 = .ok (.iload 4, 2) := by decide +kernel
theorem d_HomeSystemLaw_law_616 : decode b_HomeSystemLaw_law 616 = .ok (.iconst 2, 1) := by decide +kernel
theorem d_HomeSystemLaw_law_617 : decode b_HomeSystemLaw_law 617 = .ok (.iadd, 1) := by decide +kernel
theorem d_HomeSystemLaw_law_618 : decode b_HomeSystemLaw_law 618 = .ok (.iaload, 1) := by decide +kernel
theorem d_HomeSystemLaw_law_619 : decode b_HomeSystemLaw_law 619 = .ok (.invokevirtual 119, 3) := by decide +kernel
theorem d_HomeSystemLaw_law_622 : decode b_HomeSystemLaw_law 622 = .ok (.goto 42, 3) := by decide +kernel
theorem d_HomeSystemLaw_law_625 : decode b_HomeSystemLaw_law 625 = .ok (.aload_n 1, 1) := by decide +kernel
theorem d_HomeSystemLaw_law_626 : decode b_HomeSystemLaw_law 626 = .ok (.invokevirtual 120, 3) := by decide +kernel
theorem d_HomeSystemLaw_law_629 : decode b_HomeSystemLaw_law 629 = .ok (.pop, 1) := by decide +kernel
theorem d_HomeSystemLaw_law_630 : decode b_HomeSystemLaw_law 630 = .ok (.aload_n 2, 1) := by decide +kernel
theorem d_HomeSystemLaw_law_631 : decode b_HomeSystemLaw_law 631 = .ok (.invokevirtual 123, 3) := by decide +kernel
theorem d_HomeSystemLaw_law_634 : decode b_HomeSystemLaw_law 634 = .ok (.pop, 1) := by decide +kernel
theorem d_HomeSystemLaw_law_635 : decode b_HomeSystemLaw_law 635 = .ok (.goto 29, 3) := by decide +kernel
theorem d_HomeSystemLaw_law_638 : decode b_HomeSystemLaw_law 638 = .ok (.aload_n 1, 1) := by decide +kernel
theorem d_HomeSystemLaw_law_639 : decode b_HomeSystemLaw_law 639 = .ok (.invokevirtual 124, 3) := by decide +kernel
theorem d_HomeSystemLaw_law_642 : decode b_HomeSystemLaw_law 642 = .ok (.pop, 1) := by decide +kernel
theorem d_HomeSystemLaw_law_643 : decode b_HomeSystemLaw_law 643 = .ok (.aload_n 2, 1) := by decide +kernel
theorem d_HomeSystemLaw_law_644 : decode b_HomeSystemLaw_law 644 = .ok (.invokevirtual 127, 3) := by decide +kernel
theorem d_HomeSystemLaw_law_647 : decode b_HomeSystemLaw_law 647 = .ok (.pop, 1) := by decide +kernel
theorem d_HomeSystemLaw_law_648 : decode b_HomeSystemLaw_law 648 = .ok (.goto 16, 3) := by decide +kernel
theorem d_HomeSystemLaw_law_651 : decode b_HomeSystemLaw_law 651 = .ok (.aload_n 1, 1) := by decide +kernel
theorem d_HomeSystemLaw_law_652 : decode b_HomeSystemLaw_law 652 = .ok (.invokevirtual 128, 3) := by decide +kernel
theorem d_HomeSystemLaw_law_655 : decode b_HomeSystemLaw_law 655 = .ok (.aload_n 2, 1) := by decide +kernel
theorem d_HomeSystemLaw_law_656 : decode b_HomeSystemLaw_law 656 = .ok (.invokevirtual 131, 3) := by decide +kernel
theorem d_HomeSystemLaw_law_659 : decode b_HomeSystemLaw_law 659 = .ok (.if_icmp .eq 5, 3) := by decide +kernel
theorem d_HomeSystemLaw_law_662 : decode b_HomeSystemLaw_law 662 = .ok (.iconst 0, 1) := by decide +kernel
theorem d_HomeSystemLaw_law_663 : decode b_HomeSystemLaw_law 663 = .ok (.ireturn, 1) := by decide +kernel
theorem d_HomeSystemLaw_law_664 : decode b_HomeSystemLaw_law 664 = .ok (.iinc 4 6, 3) := by decide +kernel
theorem d_HomeSystemLaw_law_667 : decode b_HomeSystemLaw_law 667 = .ok (.goto (-644), 3) := by decide +kernel
theorem d_HomeSystemLaw_law_670 : decode b_HomeSystemLaw_law 670 = .ok (.iconst 1, 1) := by decide +kernel
theorem d_HomeSystemLaw_law_671 : decode b_HomeSystemLaw_law 671 = .ok (.ireturn, 1) := by decide +kernel
theorem q_HomeSystemLaw_law : px_y y_HomeSystemLaw_law 1 := by unfold px_y; decide +kernel
section GJ
variable {p : Program} {l : Launch} {e : Env} {s : State} {m : MethodId} {args : Array Value} {below : List Frame} {meth : Method} {c : Code} {H : Heap} {locs : List Loc} {cells slots : Nat} {Q : State → Prop}
variable {ls : Array Slot} {D : va_G} {A : Nat → Prop} {cs : Nat → ClassId} {em mi gw sk st sn9 : Nat} {sb : Nat → Int32} {sK : Nat → Nat → Nat} {mk mt : Nat} {mb : Nat → Int32} {bq L xh mo q LL a b j : Nat} {xs : Nat → Int32} {F T : Int} {X Y : KS} {lv : Nat → Int64} {C M : va_W}
set_option maxHeartbeats 4000000 in
theorem b_124 (S : px_S p m c b_HomeSystemLaw_law 7 s args "HomeSystemLaw") (hT : Tb D cs s) (hA : ∀ q, s.heap.size ≤ q → A q) (lo : LO A s l em mi gw sk st sn9 sb sK mk mt mb) (hX : va_X bq L xs s s.heap) (hbl : bq < s.heap.size) (hbA : ¬ A bq) (x4 : Int32) (hj : j ≤ 511) (i1 : vp_in (x4 + 1) L) (i2 : vp_in (x4 + 2) L) (i3 : vp_in (x4 + 3) L) (i4 : vp_in (x4 + 4) L) (i5 : vp_in (x4 + 5) L) (hC : CI cs em xh sn9 sb F X LL a b C) (hM : MI cs sK mo F T Y M) (hEq : EqK F X Y) (hRm : Rm j F LL a b cells slots) (hw : pw D A s.heap H locs [wL cs q lv, C, M]) (hl : lv_has ls 7 [(4, .int x4), (0, .ref bq), (1, .ref xh), (2, .ref mo), (3, .ref q)])
  (K : ∀ (lv9 : Nat → Int64) (C9 M9 : va_W) (F9 T9 : Int) (X9 Y9 : KS) (LL9 a9 b9 cells9 slots9 : Nat) (H9 : Heap) (locs9 : List Loc) (ls9 : Array Slot), CI cs em xh sn9 sb F9 X9 LL9 a9 b9 C9 → MI cs sK mo F9 T9 Y9 M9 → EqK F9 X9 Y9 → Rm (j + 1) F9 LL9 a9 b9 cells9 slots9 → pw D A s.heap H9 locs9 [wL cs q lv9, C9, M9] → lv_has ls9 7 [(4, .int x4), (0, .ref bq), (1, .ref xh), (2, .ref mo), (3, .ref q)] → W p l e room_1 s m args below meth c H9 locs9 cells9 slots9 Q (F0 m 664 ls9 [])) :
  W p l e room_1 s m args below meth c H locs cells slots Q (F0 m 124 ls []) := by
  have hbd := hC.bd
  have hr0 := rm_room hRm (by omega) hbd.2.2
  have hr1 := hr0.2.2 hj
  refine lv_aload_n S.x S.b d_HomeSystemLaw_law_124 rfl (lv_at hl 2 rfl) ?_
  refine lv_aload_n S.x S.b d_HomeSystemLaw_law_125 rfl (lv_at hl 1 rfl) ?_
  refine lv_iload S.x S.b d_HomeSystemLaw_law_126 (lv_at hl 0 rfl) ?_
  refine lv_iconst (v := 1) S.x S.b d_HomeSystemLaw_law_128 (by decide) ?_
  refine lv_iadd S.x S.b d_HomeSystemLaw_law_129 ?_
  refine va_sld S.x S.b hX hbl hbA hw.2.2 (i := (x4 + 1)) i1 d_HomeSystemLaw_law_130 ?_
  refine lv_aload_n S.x S.b d_HomeSystemLaw_law_131 rfl (lv_at hl 1 rfl) ?_
  refine lv_iload S.x S.b d_HomeSystemLaw_law_132 (lv_at hl 0 rfl) ?_
  refine lv_iconst (v := 2) S.x S.b d_HomeSystemLaw_law_134 (by decide) ?_
  refine lv_iadd S.x S.b d_HomeSystemLaw_law_135 ?_
  refine va_sld S.x S.b hX hbl hbA hw.2.2 (i := (x4 + 2)) i2 d_HomeSystemLaw_law_136 ?_
  refine lv_aload_n S.x S.b d_HomeSystemLaw_law_137 rfl (lv_at hl 1 rfl) ?_
  refine lv_iload S.x S.b d_HomeSystemLaw_law_138 (lv_at hl 0 rfl) ?_
  refine lv_iconst (v := 3) S.x S.b d_HomeSystemLaw_law_140 (by decide) ?_
  refine lv_iadd S.x S.b d_HomeSystemLaw_law_141 ?_
  refine va_sld S.x S.b hX hbl hbA hw.2.2 (i := (x4 + 3)) i3 d_HomeSystemLaw_law_142 ?_
  refine lv_aload_n S.x S.b d_HomeSystemLaw_law_143 rfl (lv_at hl 1 rfl) ?_
  refine lv_iload S.x S.b d_HomeSystemLaw_law_144 (lv_at hl 0 rfl) ?_
  refine lv_iconst (v := 4) S.x S.b d_HomeSystemLaw_law_146 (by decide) ?_
  refine lv_iadd S.x S.b d_HomeSystemLaw_law_147 ?_
  refine va_sld S.x S.b hX hbl hbA hw.2.2 (i := (x4 + 4)) i4 d_HomeSystemLaw_law_148 ?_
  refine lv_aload_n S.x S.b d_HomeSystemLaw_law_149 rfl (lv_at hl 1 rfl) ?_
  refine lv_iload S.x S.b d_HomeSystemLaw_law_150 (lv_at hl 0 rfl) ?_
  refine lv_iconst (v := 5) S.x S.b d_HomeSystemLaw_law_152 (by decide) ?_
  refine lv_iadd S.x S.b d_HomeSystemLaw_law_153 ?_
  refine va_sld S.x S.b hX hbl hbA hw.2.2 (i := (x4 + 5)) i5 d_HomeSystemLaw_law_154 ?_
  refine s_feed (q := q) (lv := lv) (rest := []) S hT hA lo.lf lo.tx.1 hC hw (xs (x4 + 1).toNatClampNeg) (xs (x4 + 2).toNatClampNeg) (xs (x4 + 3).toNatClampNeg) (xs (x4 + 4).toNatClampNeg) (xs (x4 + 5).toNatClampNeg) ⟨Nat.le_of_ble_eq_true rfl, Nat.le_of_ble_eq_true rfl⟩ hl.1 (Nat.le_of_ble_eq_true rfl) d_HomeSystemLaw_law_155 ⟨by show cells + 1 ≤ 601024; omega, by show slots + 6 ≤ 7293034; omega⟩ (fun r1 lv1 C1 F1 X1 LL1 a1 b1 k1 n1 H locs hC hG hx hw => ?_)
  have hbd1 := hC.bd
  have hrm0 := rm_grF hRm hG
  have hr2 := rm_room hrm0 (by omega) hbd1.2.2
  refine lv_istore (lv' := [(5, .int r1), (4, .int x4), (0, .ref bq), (1, .ref xh), (2, .ref mo), (3, .ref q)]) S.x S.b d_HomeSystemLaw_law_158 hl (by decide) rfl (fun ls hl => ?_)
  refine lv_aload_n S.x S.b d_HomeSystemLaw_law_160 rfl (lv_at hl 4 rfl) ?_
  refine lv_aload_n S.x S.b d_HomeSystemLaw_law_161 rfl (lv_at hl 2 rfl) ?_
  refine lv_iload S.x S.b d_HomeSystemLaw_law_162 (lv_at hl 1 rfl) ?_
  refine lv_iconst (v := 1) S.x S.b d_HomeSystemLaw_law_164 (by decide) ?_
  refine lv_iadd S.x S.b d_HomeSystemLaw_law_165 ?_
  refine va_sld S.x S.b hX hbl hbA hw.2.2 (i := (x4 + 1)) i1 d_HomeSystemLaw_law_166 ?_
  refine lv_aload_n S.x S.b d_HomeSystemLaw_law_167 rfl (lv_at hl 2 rfl) ?_
  refine lv_iload S.x S.b d_HomeSystemLaw_law_168 (lv_at hl 1 rfl) ?_
  refine lv_iconst (v := 2) S.x S.b d_HomeSystemLaw_law_170 (by decide) ?_
  refine lv_iadd S.x S.b d_HomeSystemLaw_law_171 ?_
  refine va_sld S.x S.b hX hbl hbA hw.2.2 (i := (x4 + 2)) i2 d_HomeSystemLaw_law_172 ?_
  refine lv_aload_n S.x S.b d_HomeSystemLaw_law_173 rfl (lv_at hl 2 rfl) ?_
  refine lv_iload S.x S.b d_HomeSystemLaw_law_174 (lv_at hl 1 rfl) ?_
  refine lv_iconst (v := 3) S.x S.b d_HomeSystemLaw_law_176 (by decide) ?_
  refine lv_iadd S.x S.b d_HomeSystemLaw_law_177 ?_
  refine va_sld S.x S.b hX hbl hbA hw.2.2 (i := (x4 + 3)) i3 d_HomeSystemLaw_law_178 ?_
  refine lv_aload_n S.x S.b d_HomeSystemLaw_law_179 rfl (lv_at hl 2 rfl) ?_
  refine lv_iload S.x S.b d_HomeSystemLaw_law_180 (lv_at hl 1 rfl) ?_
  refine lv_iconst (v := 4) S.x S.b d_HomeSystemLaw_law_182 (by decide) ?_
  refine lv_iadd S.x S.b d_HomeSystemLaw_law_183 ?_
  refine va_sld S.x S.b hX hbl hbA hw.2.2 (i := (x4 + 4)) i4 d_HomeSystemLaw_law_184 ?_
  refine lv_aload_n S.x S.b d_HomeSystemLaw_law_185 rfl (lv_at hl 2 rfl) ?_
  refine lv_iload S.x S.b d_HomeSystemLaw_law_186 (lv_at hl 1 rfl) ?_
  refine lv_iconst (v := 5) S.x S.b d_HomeSystemLaw_law_188 (by decide) ?_
  refine lv_iadd S.x S.b d_HomeSystemLaw_law_189 ?_
  refine va_sld S.x S.b hX hbl hbA hw.2.2 (i := (x4 + 5)) i5 d_HomeSystemLaw_law_190 ?_
  refine t_feed (rest := []) S hT hA hM hw (xs (x4 + 1).toNatClampNeg) (xs (x4 + 2).toNatClampNeg) (xs (x4 + 3).toNatClampNeg) (xs (x4 + 4).toNatClampNeg) (xs (x4 + 5).toNatClampNeg) ⟨Nat.le_of_ble_eq_true rfl, Nat.le_of_ble_eq_true rfl⟩ hl.1 (Nat.le_of_ble_eq_true rfl) d_HomeSystemLaw_law_191 ⟨by show cells + k1 + 0 ≤ 601024; omega, by show slots + n1 + 0 ≤ 7293034; omega⟩ (fun M1 G1 T1 Y1 H locs hM hy hw => ?_)
  have hxy := xy_feed hbd.1 hx hy hEq
  refine lv_goto (tgt := 664) S.x S.b d_HomeSystemLaw_law_194 (by decide) ?_
  exact K lv1 C1 M1 F1 _ _ _ LL1 a1 b1 _ _ H locs ls hC (mi_eq hM (hxy.1)) hxy.2 hrm0 hw (lv_sub hl [1, 2, 3, 4, 5] rfl)
set_option maxHeartbeats 4000000 in
theorem b_197 (S : px_S p m c b_HomeSystemLaw_law 7 s args "HomeSystemLaw") (hT : Tb D cs s) (hA : ∀ q, s.heap.size ≤ q → A q) (lo : LO A s l em mi gw sk st sn9 sb sK mk mt mb) (hX : va_X bq L xs s s.heap) (hbl : bq < s.heap.size) (hbA : ¬ A bq) (x4 : Int32) (hj : j ≤ 511) (i1 : vp_in (x4 + 1) L) (i2 : vp_in (x4 + 2) L) (i3 : vp_in (x4 + 3) L) (i4 : vp_in (x4 + 4) L) (i5 : vp_in (x4 + 5) L) (hC : CI cs em xh sn9 sb F X LL a b C) (hM : MI cs sK mo F T Y M) (hEq : EqK F X Y) (hRm : Rm j F LL a b cells slots) (hw : pw D A s.heap H locs [wL cs q lv, C, M]) (hl : lv_has ls 7 [(4, .int x4), (0, .ref bq), (1, .ref xh), (2, .ref mo), (3, .ref q)])
  (K : ∀ (lv9 : Nat → Int64) (C9 M9 : va_W) (F9 T9 : Int) (X9 Y9 : KS) (LL9 a9 b9 cells9 slots9 : Nat) (H9 : Heap) (locs9 : List Loc) (ls9 : Array Slot), CI cs em xh sn9 sb F9 X9 LL9 a9 b9 C9 → MI cs sK mo F9 T9 Y9 M9 → EqK F9 X9 Y9 → Rm (j + 1) F9 LL9 a9 b9 cells9 slots9 → pw D A s.heap H9 locs9 [wL cs q lv9, C9, M9] → lv_has ls9 7 [(4, .int x4), (0, .ref bq), (1, .ref xh), (2, .ref mo), (3, .ref q)] → W p l e room_1 s m args below meth c H9 locs9 cells9 slots9 Q (F0 m 664 ls9 [])) :
  W p l e room_1 s m args below meth c H locs cells slots Q (F0 m 197 ls []) := by
  have hbd := hC.bd
  have hr0 := rm_room hRm (by omega) hbd.2.2
  have hr1 := hr0.2.2 hj
  refine lv_aload_n S.x S.b d_HomeSystemLaw_law_197 rfl (lv_at hl 2 rfl) ?_
  refine lv_aload_n S.x S.b d_HomeSystemLaw_law_198 rfl (lv_at hl 1 rfl) ?_
  refine lv_iload S.x S.b d_HomeSystemLaw_law_199 (lv_at hl 0 rfl) ?_
  refine lv_iconst (v := 1) S.x S.b d_HomeSystemLaw_law_201 (by decide) ?_
  refine lv_iadd S.x S.b d_HomeSystemLaw_law_202 ?_
  refine va_sld S.x S.b hX hbl hbA hw.2.2 (i := (x4 + 1)) i1 d_HomeSystemLaw_law_203 ?_
  refine s_end (q := q) (lv := lv) (rest := []) S hT hA lo.lf lo.tx.1 hC hw (xs (x4 + 1).toNatClampNeg) ⟨Nat.le_of_ble_eq_true rfl, Nat.le_of_ble_eq_true rfl⟩ hl.1 (Nat.le_of_ble_eq_true rfl) d_HomeSystemLaw_law_204 ⟨by show cells + 1 ≤ 601024; omega, by show slots + 6 ≤ 7293034; omega⟩ (fun r1 lv1 C1 F1 X1 LL1 a1 b1 k1 n1 H locs hC hG hx hw => ?_)
  have hbd1 := hC.bd
  have hrm2 := rm_gr (k2 := 1) (n2 := 6) hRm hG (by omega) (by omega)
  have hrm0 := rm_gr (k2 := 0) (n2 := 0) hRm hG (by omega) (by omega)
  have hr2 := rm_room hrm2 (by omega) hbd1.2.2
  refine lv_istore (lv' := [(5, .int r1), (4, .int x4), (0, .ref bq), (1, .ref xh), (2, .ref mo), (3, .ref q)]) S.x S.b d_HomeSystemLaw_law_207 hl (by decide) rfl (fun ls hl => ?_)
  refine lv_aload_n S.x S.b d_HomeSystemLaw_law_209 rfl (lv_at hl 4 rfl) ?_
  refine lv_aload_n S.x S.b d_HomeSystemLaw_law_210 rfl (lv_at hl 2 rfl) ?_
  refine lv_iload S.x S.b d_HomeSystemLaw_law_211 (lv_at hl 1 rfl) ?_
  refine lv_iconst (v := 1) S.x S.b d_HomeSystemLaw_law_213 (by decide) ?_
  refine lv_iadd S.x S.b d_HomeSystemLaw_law_214 ?_
  refine va_sld S.x S.b hX hbl hbA hw.2.2 (i := (x4 + 1)) i1 d_HomeSystemLaw_law_215 ?_
  refine t_end (rest := []) S hT hA hM hw (xs (x4 + 1).toNatClampNeg) ⟨Nat.le_of_ble_eq_true rfl, Nat.le_of_ble_eq_true rfl⟩ hl.1 (Nat.le_of_ble_eq_true rfl) d_HomeSystemLaw_law_216 ⟨by show cells + k1 + 0 ≤ 601024; omega, by show slots + n1 + 0 ≤ 7293034; omega⟩ (fun M1 G1 T1 Y1 H locs hM hy hw => ?_)
  have hxy := xy_end hbd.1 hx hy hEq
  refine lv_goto (tgt := 664) S.x S.b d_HomeSystemLaw_law_219 (by decide) ?_
  exact K lv1 C1 M1 F1 _ _ _ LL1 a1 b1 _ _ H locs ls hC (mi_eq hM (hxy.1)) hxy.2 hrm0 hw (lv_sub hl [1, 2, 3, 4, 5] rfl)
set_option maxHeartbeats 4000000 in
theorem b_222 (S : px_S p m c b_HomeSystemLaw_law 7 s args "HomeSystemLaw") (hT : Tb D cs s) (hA : ∀ q, s.heap.size ≤ q → A q) (lo : LO A s l em mi gw sk st sn9 sb sK mk mt mb) (hX : va_X bq L xs s s.heap) (hbl : bq < s.heap.size) (hbA : ¬ A bq) (x4 : Int32) (hj : j ≤ 511) (i1 : vp_in (x4 + 1) L) (i2 : vp_in (x4 + 2) L) (i3 : vp_in (x4 + 3) L) (i4 : vp_in (x4 + 4) L) (i5 : vp_in (x4 + 5) L) (hC : CI cs em xh sn9 sb F X LL a b C) (hM : MI cs sK mo F T Y M) (hEq : EqK F X Y) (hRm : Rm j F LL a b cells slots) (hw : pw D A s.heap H locs [wL cs q lv, C, M]) (hl : lv_has ls 7 [(4, .int x4), (0, .ref bq), (1, .ref xh), (2, .ref mo), (3, .ref q)])
  (K : ∀ (lv9 : Nat → Int64) (C9 M9 : va_W) (F9 T9 : Int) (X9 Y9 : KS) (LL9 a9 b9 cells9 slots9 : Nat) (H9 : Heap) (locs9 : List Loc) (ls9 : Array Slot), CI cs em xh sn9 sb F9 X9 LL9 a9 b9 C9 → MI cs sK mo F9 T9 Y9 M9 → EqK F9 X9 Y9 → Rm (j + 1) F9 LL9 a9 b9 cells9 slots9 → pw D A s.heap H9 locs9 [wL cs q lv9, C9, M9] → lv_has ls9 7 [(4, .int x4), (0, .ref bq), (1, .ref xh), (2, .ref mo), (3, .ref q)] → W p l e room_1 s m args below meth c H9 locs9 cells9 slots9 Q (F0 m 664 ls9 [])) :
  W p l e room_1 s m args below meth c H locs cells slots Q (F0 m 222 ls []) := by
  have hbd := hC.bd
  have hr0 := rm_room hRm (by omega) hbd.2.2
  have hr1 := hr0.2.2 hj
  refine lv_aload_n S.x S.b d_HomeSystemLaw_law_222 rfl (lv_at hl 2 rfl) ?_
  refine lv_aload_n S.x S.b d_HomeSystemLaw_law_223 rfl (lv_at hl 1 rfl) ?_
  refine lv_iload S.x S.b d_HomeSystemLaw_law_224 (lv_at hl 0 rfl) ?_
  refine lv_iconst (v := 1) S.x S.b d_HomeSystemLaw_law_226 (by decide) ?_
  refine lv_iadd S.x S.b d_HomeSystemLaw_law_227 ?_
  refine va_sld S.x S.b hX hbl hbA hw.2.2 (i := (x4 + 1)) i1 d_HomeSystemLaw_law_228 ?_
  refine lv_aload_n S.x S.b d_HomeSystemLaw_law_229 rfl (lv_at hl 4 rfl) ?_
  refine s_text (q := q) (lv := lv) (rest := []) S hT hA lo.lf (sn9 := sn9) lo.sn lo.tx hC hw (xs (x4 + 1).toNatClampNeg) ⟨Nat.le_of_ble_eq_true rfl, Nat.le_of_ble_eq_true rfl⟩ hl.1 (Nat.le_of_ble_eq_true rfl) d_HomeSystemLaw_law_230 ⟨hr1.1, hr1.2.1⟩ (fun r1 lv1 C1 F1 X1 LL1 a1 b1 k1 n1 H locs hC hG hx hw => ?_)
  have hbd1 := hC.bd
  have hrm2 := rm_grT (k2 := 1) (n2 := 6) hbd.1 hRm hG (by omega) (by omega)
  have hrm0 := rm_grT (k2 := 0) (n2 := 0) hbd.1 hRm hG (by omega) (by omega)
  have hr2 := rm_room hrm2 (by omega) hbd1.2.2
  refine lv_istore (lv' := [(5, .int r1), (4, .int x4), (0, .ref bq), (1, .ref xh), (2, .ref mo), (3, .ref q)]) S.x S.b d_HomeSystemLaw_law_233 hl (by decide) rfl (fun ls hl => ?_)
  refine lv_aload_n S.x S.b d_HomeSystemLaw_law_235 rfl (lv_at hl 4 rfl) ?_
  refine lv_aload_n S.x S.b d_HomeSystemLaw_law_236 rfl (lv_at hl 2 rfl) ?_
  refine lv_iload S.x S.b d_HomeSystemLaw_law_237 (lv_at hl 1 rfl) ?_
  refine lv_iconst (v := 1) S.x S.b d_HomeSystemLaw_law_239 (by decide) ?_
  refine lv_iadd S.x S.b d_HomeSystemLaw_law_240 ?_
  refine va_sld S.x S.b hX hbl hbA hw.2.2 (i := (x4 + 1)) i1 d_HomeSystemLaw_law_241 ?_
  refine t_text (rest := []) S hT hA lo.lf lo.k lo.tx.1 lo.mn hM hw (xs (x4 + 1).toNatClampNeg) ⟨Nat.le_of_ble_eq_true rfl, Nat.le_of_ble_eq_true rfl⟩ hl.1 (Nat.le_of_ble_eq_true rfl) d_HomeSystemLaw_law_242 ⟨by show cells + k1 + 1 ≤ 601024; omega, by show slots + n1 + 6 ≤ 7293034; omega⟩ (fun r2 M1 G1 T1 Y1 H locs hM hy hw => ?_)
  have hxy := xy_text hbd.1 lo.mw hx hy hEq
  refine lv_istore (lv' := [(6, .int r2), (5, .int r1), (4, .int x4), (0, .ref bq), (1, .ref xh), (2, .ref mo), (3, .ref q)]) S.x S.b d_HomeSystemLaw_law_245 hl (by decide) rfl (fun ls hl => ?_)
  refine lv_goto (tgt := 664) S.x S.b d_HomeSystemLaw_law_247 (by decide) ?_
  exact K lv1 C1 M1 F1 _ _ _ LL1 a1 b1 _ _ H locs ls hC (mi_eq hM (hxy.1)) hxy.2 hrm2 hw (lv_sub hl [2, 3, 4, 5, 6] rfl)
set_option maxHeartbeats 4000000 in
theorem b_250 (S : px_S p m c b_HomeSystemLaw_law 7 s args "HomeSystemLaw") (hT : Tb D cs s) (hA : ∀ q, s.heap.size ≤ q → A q) (lo : LO A s l em mi gw sk st sn9 sb sK mk mt mb) (hX : va_X bq L xs s s.heap) (hbl : bq < s.heap.size) (hbA : ¬ A bq) (x4 : Int32) (hj : j ≤ 511) (i1 : vp_in (x4 + 1) L) (i2 : vp_in (x4 + 2) L) (i3 : vp_in (x4 + 3) L) (i4 : vp_in (x4 + 4) L) (i5 : vp_in (x4 + 5) L) (hC : CI cs em xh sn9 sb F X LL a b C) (hM : MI cs sK mo F T Y M) (hEq : EqK F X Y) (hRm : Rm j F LL a b cells slots) (hw : pw D A s.heap H locs [wL cs q lv, C, M]) (hl : lv_has ls 7 [(4, .int x4), (0, .ref bq), (1, .ref xh), (2, .ref mo), (3, .ref q)])
  (K : ∀ (lv9 : Nat → Int64) (C9 M9 : va_W) (F9 T9 : Int) (X9 Y9 : KS) (LL9 a9 b9 cells9 slots9 : Nat) (H9 : Heap) (locs9 : List Loc) (ls9 : Array Slot), CI cs em xh sn9 sb F9 X9 LL9 a9 b9 C9 → MI cs sK mo F9 T9 Y9 M9 → EqK F9 X9 Y9 → Rm (j + 1) F9 LL9 a9 b9 cells9 slots9 → pw D A s.heap H9 locs9 [wL cs q lv9, C9, M9] → lv_has ls9 7 [(4, .int x4), (0, .ref bq), (1, .ref xh), (2, .ref mo), (3, .ref q)] → W p l e room_1 s m args below meth c H9 locs9 cells9 slots9 Q (F0 m 664 ls9 [])) :
  W p l e room_1 s m args below meth c H locs cells slots Q (F0 m 250 ls []) := by
  have hbd := hC.bd
  have hr0 := rm_room hRm (by omega) hbd.2.2
  have hr1 := hr0.2.2 hj
  refine lv_aload_n S.x S.b d_HomeSystemLaw_law_250 rfl (lv_at hl 2 rfl) ?_
  refine s_place (rest := []) S hT hA hC hw ⟨Nat.le_of_ble_eq_true rfl, Nat.le_of_ble_eq_true rfl⟩ hl.1 (Nat.le_of_ble_eq_true rfl) d_HomeSystemLaw_law_251 ⟨by show cells + 0 ≤ 601024; omega, by show slots + 0 ≤ 7293034; omega⟩ (fun r1 H locs hw => ?_)
  refine lv_pop S.x S.b d_HomeSystemLaw_law_254 rfl ?_
  refine lv_aload_n S.x S.b d_HomeSystemLaw_law_255 rfl (lv_at hl 3 rfl) ?_
  refine t_place (rest := []) S hT hA hM hw ⟨Nat.le_of_ble_eq_true rfl, Nat.le_of_ble_eq_true rfl⟩ hl.1 (Nat.le_of_ble_eq_true rfl) d_HomeSystemLaw_law_256 ⟨by show cells + 0 + 0 ≤ 601024; omega, by show slots + 0 + 0 ≤ 7293034; omega⟩ (fun r2 M1 G1 T1 Y1 H locs hM hy hw => ?_)
  have hxy := xy_same hbd.1 (show Sx_same F X 0 0 F X from ⟨rfl, rfl, rfl, fun _ => rfl⟩) hy hEq
  refine lv_pop S.x S.b d_HomeSystemLaw_law_259 rfl ?_
  refine lv_goto (tgt := 664) S.x S.b d_HomeSystemLaw_law_260 (by decide) ?_
  exact K lv C M1 F _ _ _ LL a b _ _ H locs ls hC (mi_eq hM (hxy.1)) hxy.2 (rm_gr (k2 := 0) (n2 := 0) hRm (show Gr F LL a b F LL a b 0 0 from ⟨by omega, rfl, by omega, by omega⟩) (by omega) (by omega)) hw (lv_sub hl [0, 1, 2, 3, 4] rfl)
set_option maxHeartbeats 4000000 in
theorem b_263 (S : px_S p m c b_HomeSystemLaw_law 7 s args "HomeSystemLaw") (hT : Tb D cs s) (hA : ∀ q, s.heap.size ≤ q → A q) (lo : LO A s l em mi gw sk st sn9 sb sK mk mt mb) (hX : va_X bq L xs s s.heap) (hbl : bq < s.heap.size) (hbA : ¬ A bq) (x4 : Int32) (hj : j ≤ 511) (i1 : vp_in (x4 + 1) L) (i2 : vp_in (x4 + 2) L) (i3 : vp_in (x4 + 3) L) (i4 : vp_in (x4 + 4) L) (i5 : vp_in (x4 + 5) L) (hC : CI cs em xh sn9 sb F X LL a b C) (hM : MI cs sK mo F T Y M) (hEq : EqK F X Y) (hRm : Rm j F LL a b cells slots) (hw : pw D A s.heap H locs [wL cs q lv, C, M]) (hl : lv_has ls 7 [(4, .int x4), (0, .ref bq), (1, .ref xh), (2, .ref mo), (3, .ref q)])
  (K : ∀ (lv9 : Nat → Int64) (C9 M9 : va_W) (F9 T9 : Int) (X9 Y9 : KS) (LL9 a9 b9 cells9 slots9 : Nat) (H9 : Heap) (locs9 : List Loc) (ls9 : Array Slot), CI cs em xh sn9 sb F9 X9 LL9 a9 b9 C9 → MI cs sK mo F9 T9 Y9 M9 → EqK F9 X9 Y9 → Rm (j + 1) F9 LL9 a9 b9 cells9 slots9 → pw D A s.heap H9 locs9 [wL cs q lv9, C9, M9] → lv_has ls9 7 [(4, .int x4), (0, .ref bq), (1, .ref xh), (2, .ref mo), (3, .ref q)] → W p l e room_1 s m args below meth c H9 locs9 cells9 slots9 Q (F0 m 664 ls9 [])) :
  W p l e room_1 s m args below meth c H locs cells slots Q (F0 m 263 ls []) := by
  have hbd := hC.bd
  have hr0 := rm_room hRm (by omega) hbd.2.2
  have hr1 := hr0.2.2 hj
  refine lv_aload_n S.x S.b d_HomeSystemLaw_law_263 rfl (lv_at hl 2 rfl) ?_
  refine lv_aload_n S.x S.b d_HomeSystemLaw_law_264 rfl (lv_at hl 1 rfl) ?_
  refine lv_iload S.x S.b d_HomeSystemLaw_law_265 (lv_at hl 0 rfl) ?_
  refine lv_iconst (v := 1) S.x S.b d_HomeSystemLaw_law_267 (by decide) ?_
  refine lv_iadd S.x S.b d_HomeSystemLaw_law_268 ?_
  refine va_sld S.x S.b hX hbl hbA hw.2.2 (i := (x4 + 1)) i1 d_HomeSystemLaw_law_269 ?_
  refine lv_aload_n S.x S.b d_HomeSystemLaw_law_270 rfl (lv_at hl 4 rfl) ?_
  refine s_raw (q := q) (lv := lv) (rest := []) S hT hA lo.lf lo.tx.1 hC hw (xs (x4 + 1).toNatClampNeg) ⟨Nat.le_of_ble_eq_true rfl, Nat.le_of_ble_eq_true rfl⟩ hl.1 (Nat.le_of_ble_eq_true rfl) d_HomeSystemLaw_law_271 ⟨by show cells + 3 ≤ 601024; omega, by show slots + 700 ≤ 7293034; omega⟩ (fun r1 lv1 C1 F1 X1 LL1 a1 b1 k1 n1 H locs hC hG hx hw => ?_)
  have hbd1 := hC.bd
  have hrm2 := rm_gr (k2 := 1) (n2 := 6) hRm hG (by omega) (by omega)
  have hrm0 := rm_gr (k2 := 0) (n2 := 0) hRm hG (by omega) (by omega)
  have hr2 := rm_room hrm2 (by omega) hbd1.2.2
  refine lv_istore (lv' := [(5, .int r1), (4, .int x4), (0, .ref bq), (1, .ref xh), (2, .ref mo), (3, .ref q)]) S.x S.b d_HomeSystemLaw_law_274 hl (by decide) rfl (fun ls hl => ?_)
  refine lv_aload_n S.x S.b d_HomeSystemLaw_law_276 rfl (lv_at hl 4 rfl) ?_
  refine lv_aload_n S.x S.b d_HomeSystemLaw_law_277 rfl (lv_at hl 2 rfl) ?_
  refine lv_iload S.x S.b d_HomeSystemLaw_law_278 (lv_at hl 1 rfl) ?_
  refine lv_iconst (v := 1) S.x S.b d_HomeSystemLaw_law_280 (by decide) ?_
  refine lv_iadd S.x S.b d_HomeSystemLaw_law_281 ?_
  refine va_sld S.x S.b hX hbl hbA hw.2.2 (i := (x4 + 1)) i1 d_HomeSystemLaw_law_282 ?_
  refine t_raw (rest := []) S hT hA hM hw (xs (x4 + 1).toNatClampNeg) ⟨Nat.le_of_ble_eq_true rfl, Nat.le_of_ble_eq_true rfl⟩ hl.1 (Nat.le_of_ble_eq_true rfl) d_HomeSystemLaw_law_283 ⟨by show cells + k1 + 0 ≤ 601024; omega, by show slots + n1 + 0 ≤ 7293034; omega⟩ (fun r2 M1 G1 T1 Y1 H locs hM hy hw => ?_)
  have hxy := xy_raw hbd.1 hx hy hEq
  refine lv_istore (lv' := [(6, .int r2), (5, .int r1), (4, .int x4), (0, .ref bq), (1, .ref xh), (2, .ref mo), (3, .ref q)]) S.x S.b d_HomeSystemLaw_law_286 hl (by decide) rfl (fun ls hl => ?_)
  refine lv_goto (tgt := 664) S.x S.b d_HomeSystemLaw_law_288 (by decide) ?_
  exact K lv1 C1 M1 F1 _ _ _ LL1 a1 b1 _ _ H locs ls hC (mi_eq hM (hxy.1)) hxy.2 hrm0 hw (lv_sub hl [2, 3, 4, 5, 6] rfl)
set_option maxHeartbeats 4000000 in
theorem b_291 (S : px_S p m c b_HomeSystemLaw_law 7 s args "HomeSystemLaw") (hT : Tb D cs s) (hA : ∀ q, s.heap.size ≤ q → A q) (lo : LO A s l em mi gw sk st sn9 sb sK mk mt mb) (hX : va_X bq L xs s s.heap) (hbl : bq < s.heap.size) (hbA : ¬ A bq) (x4 : Int32) (hj : j ≤ 511) (i1 : vp_in (x4 + 1) L) (i2 : vp_in (x4 + 2) L) (i3 : vp_in (x4 + 3) L) (i4 : vp_in (x4 + 4) L) (i5 : vp_in (x4 + 5) L) (hC : CI cs em xh sn9 sb F X LL a b C) (hM : MI cs sK mo F T Y M) (hEq : EqK F X Y) (hRm : Rm j F LL a b cells slots) (hw : pw D A s.heap H locs [wL cs q lv, C, M]) (hl : lv_has ls 7 [(4, .int x4), (0, .ref bq), (1, .ref xh), (2, .ref mo), (3, .ref q)])
  (K : ∀ (lv9 : Nat → Int64) (C9 M9 : va_W) (F9 T9 : Int) (X9 Y9 : KS) (LL9 a9 b9 cells9 slots9 : Nat) (H9 : Heap) (locs9 : List Loc) (ls9 : Array Slot), CI cs em xh sn9 sb F9 X9 LL9 a9 b9 C9 → MI cs sK mo F9 T9 Y9 M9 → EqK F9 X9 Y9 → Rm (j + 1) F9 LL9 a9 b9 cells9 slots9 → pw D A s.heap H9 locs9 [wL cs q lv9, C9, M9] → lv_has ls9 7 [(4, .int x4), (0, .ref bq), (1, .ref xh), (2, .ref mo), (3, .ref q)] → W p l e room_1 s m args below meth c H9 locs9 cells9 slots9 Q (F0 m 664 ls9 [])) :
  W p l e room_1 s m args below meth c H locs cells slots Q (F0 m 291 ls []) := by
  have hbd := hC.bd
  have hr0 := rm_room hRm (by omega) hbd.2.2
  have hr1 := hr0.2.2 hj
  refine lv_aload_n S.x S.b d_HomeSystemLaw_law_291 rfl (lv_at hl 2 rfl) ?_
  refine lv_aload_n S.x S.b d_HomeSystemLaw_law_292 rfl (lv_at hl 1 rfl) ?_
  refine lv_iload S.x S.b d_HomeSystemLaw_law_293 (lv_at hl 0 rfl) ?_
  refine lv_iconst (v := 1) S.x S.b d_HomeSystemLaw_law_295 (by decide) ?_
  refine lv_iadd S.x S.b d_HomeSystemLaw_law_296 ?_
  refine va_sld S.x S.b hX hbl hbA hw.2.2 (i := (x4 + 1)) i1 d_HomeSystemLaw_law_297 ?_
  refine s_turn (q := q) (lv := lv) (rest := []) S hT hA lo.lf lo.tx.1 hC hw (xs (x4 + 1).toNatClampNeg) ⟨Nat.le_of_ble_eq_true rfl, Nat.le_of_ble_eq_true rfl⟩ hl.1 (Nat.le_of_ble_eq_true rfl) d_HomeSystemLaw_law_298 ⟨by show cells + 1 ≤ 601024; omega, by show slots + 6 ≤ 7293034; omega⟩ (fun r1 lv1 C1 F1 X1 LL1 a1 b1 k1 n1 H locs hC hG hx hw => ?_)
  have hbd1 := hC.bd
  have hrm2 := rm_gr (k2 := 1) (n2 := 6) hRm hG (by omega) (by omega)
  have hrm0 := rm_gr (k2 := 0) (n2 := 0) hRm hG (by omega) (by omega)
  have hr2 := rm_room hrm2 (by omega) hbd1.2.2
  refine lv_istore (lv' := [(5, .int r1), (4, .int x4), (0, .ref bq), (1, .ref xh), (2, .ref mo), (3, .ref q)]) S.x S.b d_HomeSystemLaw_law_301 hl (by decide) rfl (fun ls hl => ?_)
  refine lv_aload_n S.x S.b d_HomeSystemLaw_law_303 rfl (lv_at hl 4 rfl) ?_
  refine lv_aload_n S.x S.b d_HomeSystemLaw_law_304 rfl (lv_at hl 2 rfl) ?_
  refine lv_iload S.x S.b d_HomeSystemLaw_law_305 (lv_at hl 1 rfl) ?_
  refine lv_iconst (v := 1) S.x S.b d_HomeSystemLaw_law_307 (by decide) ?_
  refine lv_iadd S.x S.b d_HomeSystemLaw_law_308 ?_
  refine va_sld S.x S.b hX hbl hbA hw.2.2 (i := (x4 + 1)) i1 d_HomeSystemLaw_law_309 ?_
  refine t_turn (rest := []) S hT hA hM hw (xs (x4 + 1).toNatClampNeg) ⟨Nat.le_of_ble_eq_true rfl, Nat.le_of_ble_eq_true rfl⟩ hl.1 (Nat.le_of_ble_eq_true rfl) d_HomeSystemLaw_law_310 ⟨by show cells + k1 + 0 ≤ 601024; omega, by show slots + n1 + 0 ≤ 7293034; omega⟩ (fun M1 G1 T1 Y1 H locs hM hy hw => ?_)
  have hxy := xy_same hbd.1 hx hy hEq
  refine lv_goto (tgt := 664) S.x S.b d_HomeSystemLaw_law_313 (by decide) ?_
  exact K lv1 C1 M1 F1 _ _ _ LL1 a1 b1 _ _ H locs ls hC (mi_eq hM (hxy.1)) hxy.2 hrm0 hw (lv_sub hl [1, 2, 3, 4, 5] rfl)
set_option maxHeartbeats 4000000 in
theorem b_316 (S : px_S p m c b_HomeSystemLaw_law 7 s args "HomeSystemLaw") (hT : Tb D cs s) (hA : ∀ q, s.heap.size ≤ q → A q) (lo : LO A s l em mi gw sk st sn9 sb sK mk mt mb) (hX : va_X bq L xs s s.heap) (hbl : bq < s.heap.size) (hbA : ¬ A bq) (x4 : Int32) (hj : j ≤ 511) (i1 : vp_in (x4 + 1) L) (i2 : vp_in (x4 + 2) L) (i3 : vp_in (x4 + 3) L) (i4 : vp_in (x4 + 4) L) (i5 : vp_in (x4 + 5) L) (hC : CI cs em xh sn9 sb F X LL a b C) (hM : MI cs sK mo F T Y M) (hEq : EqK F X Y) (hRm : Rm j F LL a b cells slots) (hw : pw D A s.heap H locs [wL cs q lv, C, M]) (hl : lv_has ls 7 [(4, .int x4), (0, .ref bq), (1, .ref xh), (2, .ref mo), (3, .ref q)])
  (K : ∀ (lv9 : Nat → Int64) (C9 M9 : va_W) (F9 T9 : Int) (X9 Y9 : KS) (LL9 a9 b9 cells9 slots9 : Nat) (H9 : Heap) (locs9 : List Loc) (ls9 : Array Slot), CI cs em xh sn9 sb F9 X9 LL9 a9 b9 C9 → MI cs sK mo F9 T9 Y9 M9 → EqK F9 X9 Y9 → Rm (j + 1) F9 LL9 a9 b9 cells9 slots9 → pw D A s.heap H9 locs9 [wL cs q lv9, C9, M9] → lv_has ls9 7 [(4, .int x4), (0, .ref bq), (1, .ref xh), (2, .ref mo), (3, .ref q)] → W p l e room_1 s m args below meth c H9 locs9 cells9 slots9 Q (F0 m 664 ls9 [])) :
  W p l e room_1 s m args below meth c H locs cells slots Q (F0 m 316 ls []) := by
  have hbd := hC.bd
  have hr0 := rm_room hRm (by omega) hbd.2.2
  have hr1 := hr0.2.2 hj
  refine lv_aload_n S.x S.b d_HomeSystemLaw_law_316 rfl (lv_at hl 2 rfl) ?_
  refine lv_aload_n S.x S.b d_HomeSystemLaw_law_317 rfl (lv_at hl 1 rfl) ?_
  refine lv_iload S.x S.b d_HomeSystemLaw_law_318 (lv_at hl 0 rfl) ?_
  refine lv_iconst (v := 1) S.x S.b d_HomeSystemLaw_law_320 (by decide) ?_
  refine lv_iadd S.x S.b d_HomeSystemLaw_law_321 ?_
  refine va_sld S.x S.b hX hbl hbA hw.2.2 (i := (x4 + 1)) i1 d_HomeSystemLaw_law_322 ?_
  refine lv_aload_n S.x S.b d_HomeSystemLaw_law_323 rfl (lv_at hl 1 rfl) ?_
  refine lv_iload S.x S.b d_HomeSystemLaw_law_324 (lv_at hl 0 rfl) ?_
  refine lv_iconst (v := 2) S.x S.b d_HomeSystemLaw_law_326 (by decide) ?_
  refine lv_iadd S.x S.b d_HomeSystemLaw_law_327 ?_
  refine va_sld S.x S.b hX hbl hbA hw.2.2 (i := (x4 + 2)) i2 d_HomeSystemLaw_law_328 ?_
  refine lv_aload_n S.x S.b d_HomeSystemLaw_law_329 rfl (lv_at hl 1 rfl) ?_
  refine lv_iload S.x S.b d_HomeSystemLaw_law_330 (lv_at hl 0 rfl) ?_
  refine lv_iconst (v := 3) S.x S.b d_HomeSystemLaw_law_332 (by decide) ?_
  refine lv_iadd S.x S.b d_HomeSystemLaw_law_333 ?_
  refine va_sld S.x S.b hX hbl hbA hw.2.2 (i := (x4 + 3)) i3 d_HomeSystemLaw_law_334 ?_
  refine lv_aload_n S.x S.b d_HomeSystemLaw_law_335 rfl (lv_at hl 1 rfl) ?_
  refine lv_iload S.x S.b d_HomeSystemLaw_law_336 (lv_at hl 0 rfl) ?_
  refine lv_iconst (v := 4) S.x S.b d_HomeSystemLaw_law_338 (by decide) ?_
  refine lv_iadd S.x S.b d_HomeSystemLaw_law_339 ?_
  refine va_sld S.x S.b hX hbl hbA hw.2.2 (i := (x4 + 4)) i4 d_HomeSystemLaw_law_340 ?_
  refine lv_aload_n S.x S.b d_HomeSystemLaw_law_341 rfl (lv_at hl 4 rfl) ?_
  refine s_run (q := q) (lv := lv) (rest := []) S hT hA lo.lf lo.tx.1 hC hw (xs (x4 + 1).toNatClampNeg) (xs (x4 + 2).toNatClampNeg) (xs (x4 + 3).toNatClampNeg) (xs (x4 + 4).toNatClampNeg) ⟨Nat.le_of_ble_eq_true rfl, Nat.le_of_ble_eq_true rfl⟩ hl.1 (Nat.le_of_ble_eq_true rfl) d_HomeSystemLaw_law_342 ⟨hr1.2.2.1, hr1.2.2.2⟩ (fun r1 lv1 C1 F1 X1 LL1 a1 b1 k1 n1 H locs hC hG hx hw => ?_)
  have hbd1 := hC.bd
  have hrm2 := rm_gr (k2 := 1) (n2 := 6) hRm hG (by omega) (by omega)
  have hrm0 := rm_gr (k2 := 0) (n2 := 0) hRm hG (by omega) (by omega)
  have hr2 := rm_room hrm2 (by omega) hbd1.2.2
  refine lv_istore (lv' := [(5, .int r1), (4, .int x4), (0, .ref bq), (1, .ref xh), (2, .ref mo), (3, .ref q)]) S.x S.b d_HomeSystemLaw_law_345 hl (by decide) rfl (fun ls hl => ?_)
  refine lv_aload_n S.x S.b d_HomeSystemLaw_law_347 rfl (lv_at hl 4 rfl) ?_
  refine lv_aload_n S.x S.b d_HomeSystemLaw_law_348 rfl (lv_at hl 2 rfl) ?_
  refine lv_iload S.x S.b d_HomeSystemLaw_law_349 (lv_at hl 1 rfl) ?_
  refine lv_iconst (v := 1) S.x S.b d_HomeSystemLaw_law_351 (by decide) ?_
  refine lv_iadd S.x S.b d_HomeSystemLaw_law_352 ?_
  refine va_sld S.x S.b hX hbl hbA hw.2.2 (i := (x4 + 1)) i1 d_HomeSystemLaw_law_353 ?_
  refine lv_aload_n S.x S.b d_HomeSystemLaw_law_354 rfl (lv_at hl 2 rfl) ?_
  refine lv_iload S.x S.b d_HomeSystemLaw_law_355 (lv_at hl 1 rfl) ?_
  refine lv_iconst (v := 2) S.x S.b d_HomeSystemLaw_law_357 (by decide) ?_
  refine lv_iadd S.x S.b d_HomeSystemLaw_law_358 ?_
  refine va_sld S.x S.b hX hbl hbA hw.2.2 (i := (x4 + 2)) i2 d_HomeSystemLaw_law_359 ?_
  refine lv_aload_n S.x S.b d_HomeSystemLaw_law_360 rfl (lv_at hl 2 rfl) ?_
  refine lv_iload S.x S.b d_HomeSystemLaw_law_361 (lv_at hl 1 rfl) ?_
  refine lv_iconst (v := 3) S.x S.b d_HomeSystemLaw_law_363 (by decide) ?_
  refine lv_iadd S.x S.b d_HomeSystemLaw_law_364 ?_
  refine va_sld S.x S.b hX hbl hbA hw.2.2 (i := (x4 + 3)) i3 d_HomeSystemLaw_law_365 ?_
  refine lv_aload_n S.x S.b d_HomeSystemLaw_law_366 rfl (lv_at hl 2 rfl) ?_
  refine lv_iload S.x S.b d_HomeSystemLaw_law_367 (lv_at hl 1 rfl) ?_
  refine lv_iconst (v := 4) S.x S.b d_HomeSystemLaw_law_369 (by decide) ?_
  refine lv_iadd S.x S.b d_HomeSystemLaw_law_370 ?_
  refine va_sld S.x S.b hX hbl hbA hw.2.2 (i := (x4 + 4)) i4 d_HomeSystemLaw_law_371 ?_
  refine t_run (rest := []) S hT hA lo.k lo.w hM hw (xs (x4 + 1).toNatClampNeg) (xs (x4 + 2).toNatClampNeg) (xs (x4 + 3).toNatClampNeg) (xs (x4 + 4).toNatClampNeg) ⟨Nat.le_of_ble_eq_true rfl, Nat.le_of_ble_eq_true rfl⟩ hl.1 (Nat.le_of_ble_eq_true rfl) d_HomeSystemLaw_law_372 ⟨by show cells + k1 + 0 ≤ 601024; omega, by show slots + n1 + 0 ≤ 7293034; omega⟩ (fun r2 M1 G1 T1 Y1 H locs hM hy hw => ?_)
  have hxy := xy_run hbd.1 hx hy hEq
  refine lv_istore (lv' := [(6, .int r2), (5, .int r1), (4, .int x4), (0, .ref bq), (1, .ref xh), (2, .ref mo), (3, .ref q)]) S.x S.b d_HomeSystemLaw_law_375 hl (by decide) rfl (fun ls hl => ?_)
  refine lv_goto (tgt := 664) S.x S.b d_HomeSystemLaw_law_377 (by decide) ?_
  exact K lv1 C1 M1 F1 _ _ _ LL1 a1 b1 _ _ H locs ls hC (mi_eq hM (hxy.1)) hxy.2 hrm0 hw (lv_sub hl [2, 3, 4, 5, 6] rfl)
set_option maxHeartbeats 4000000 in
theorem b_380 (S : px_S p m c b_HomeSystemLaw_law 7 s args "HomeSystemLaw") (hT : Tb D cs s) (hA : ∀ q, s.heap.size ≤ q → A q) (lo : LO A s l em mi gw sk st sn9 sb sK mk mt mb) (hX : va_X bq L xs s s.heap) (hbl : bq < s.heap.size) (hbA : ¬ A bq) (x4 : Int32) (hj : j ≤ 511) (i1 : vp_in (x4 + 1) L) (i2 : vp_in (x4 + 2) L) (i3 : vp_in (x4 + 3) L) (i4 : vp_in (x4 + 4) L) (i5 : vp_in (x4 + 5) L) (hC : CI cs em xh sn9 sb F X LL a b C) (hM : MI cs sK mo F T Y M) (hEq : EqK F X Y) (hRm : Rm j F LL a b cells slots) (hw : pw D A s.heap H locs [wL cs q lv, C, M]) (hl : lv_has ls 7 [(4, .int x4), (0, .ref bq), (1, .ref xh), (2, .ref mo), (3, .ref q)])
  (K : ∀ (lv9 : Nat → Int64) (C9 M9 : va_W) (F9 T9 : Int) (X9 Y9 : KS) (LL9 a9 b9 cells9 slots9 : Nat) (H9 : Heap) (locs9 : List Loc) (ls9 : Array Slot), CI cs em xh sn9 sb F9 X9 LL9 a9 b9 C9 → MI cs sK mo F9 T9 Y9 M9 → EqK F9 X9 Y9 → Rm (j + 1) F9 LL9 a9 b9 cells9 slots9 → pw D A s.heap H9 locs9 [wL cs q lv9, C9, M9] → lv_has ls9 7 [(4, .int x4), (0, .ref bq), (1, .ref xh), (2, .ref mo), (3, .ref q)] → W p l e room_1 s m args below meth c H9 locs9 cells9 slots9 Q (F0 m 664 ls9 [])) :
  W p l e room_1 s m args below meth c H locs cells slots Q (F0 m 380 ls []) := by
  have hbd := hC.bd
  have hr0 := rm_room hRm (by omega) hbd.2.2
  have hr1 := hr0.2.2 hj
  refine lv_aload_n S.x S.b d_HomeSystemLaw_law_380 rfl (lv_at hl 2 rfl) ?_
  refine lv_aload_n S.x S.b d_HomeSystemLaw_law_381 rfl (lv_at hl 1 rfl) ?_
  refine lv_iload S.x S.b d_HomeSystemLaw_law_382 (lv_at hl 0 rfl) ?_
  refine lv_iconst (v := 1) S.x S.b d_HomeSystemLaw_law_384 (by decide) ?_
  refine lv_iadd S.x S.b d_HomeSystemLaw_law_385 ?_
  refine va_sld S.x S.b hX hbl hbA hw.2.2 (i := (x4 + 1)) i1 d_HomeSystemLaw_law_386 ?_
  refine lv_aload_n S.x S.b d_HomeSystemLaw_law_387 rfl (lv_at hl 4 rfl) ?_
  refine s_outcome (q := q) (lv := lv) (rest := []) S hT hA lo.lf lo.tx.1 hC hw (xs (x4 + 1).toNatClampNeg) ⟨Nat.le_of_ble_eq_true rfl, Nat.le_of_ble_eq_true rfl⟩ hl.1 (Nat.le_of_ble_eq_true rfl) d_HomeSystemLaw_law_388 ⟨by show cells + 1 ≤ 601024; omega, by show slots + 6 ≤ 7293034; omega⟩ (fun r1 lv1 C1 F1 X1 LL1 a1 b1 k1 n1 H locs hC hG hx hw => ?_)
  have hbd1 := hC.bd
  have hrm2 := rm_gr (k2 := 1) (n2 := 6) hRm hG (by omega) (by omega)
  have hrm0 := rm_gr (k2 := 0) (n2 := 0) hRm hG (by omega) (by omega)
  have hr2 := rm_room hrm2 (by omega) hbd1.2.2
  refine lv_istore (lv' := [(5, .int r1), (4, .int x4), (0, .ref bq), (1, .ref xh), (2, .ref mo), (3, .ref q)]) S.x S.b d_HomeSystemLaw_law_391 hl (by decide) rfl (fun ls hl => ?_)
  refine lv_aload_n S.x S.b d_HomeSystemLaw_law_393 rfl (lv_at hl 4 rfl) ?_
  refine lv_aload_n S.x S.b d_HomeSystemLaw_law_394 rfl (lv_at hl 2 rfl) ?_
  refine lv_iload S.x S.b d_HomeSystemLaw_law_395 (lv_at hl 1 rfl) ?_
  refine lv_iconst (v := 1) S.x S.b d_HomeSystemLaw_law_397 (by decide) ?_
  refine lv_iadd S.x S.b d_HomeSystemLaw_law_398 ?_
  refine va_sld S.x S.b hX hbl hbA hw.2.2 (i := (x4 + 1)) i1 d_HomeSystemLaw_law_399 ?_
  refine t_outcome (rest := []) S hT hA hM hw (xs (x4 + 1).toNatClampNeg) ⟨Nat.le_of_ble_eq_true rfl, Nat.le_of_ble_eq_true rfl⟩ hl.1 (Nat.le_of_ble_eq_true rfl) d_HomeSystemLaw_law_400 ⟨by show cells + k1 + 0 ≤ 601024; omega, by show slots + n1 + 0 ≤ 7293034; omega⟩ (fun r2 M1 G1 T1 Y1 H locs hM hy hw => ?_)
  have hxy := xy_same hbd.1 hx hy hEq
  refine lv_istore (lv' := [(6, .int r2), (5, .int r1), (4, .int x4), (0, .ref bq), (1, .ref xh), (2, .ref mo), (3, .ref q)]) S.x S.b d_HomeSystemLaw_law_403 hl (by decide) rfl (fun ls hl => ?_)
  refine lv_goto (tgt := 664) S.x S.b d_HomeSystemLaw_law_405 (by decide) ?_
  exact K lv1 C1 M1 F1 _ _ _ LL1 a1 b1 _ _ H locs ls hC (mi_eq hM (hxy.1)) hxy.2 hrm0 hw (lv_sub hl [2, 3, 4, 5, 6] rfl)
set_option maxHeartbeats 4000000 in
theorem b_408 (S : px_S p m c b_HomeSystemLaw_law 7 s args "HomeSystemLaw") (hT : Tb D cs s) (hA : ∀ q, s.heap.size ≤ q → A q) (lo : LO A s l em mi gw sk st sn9 sb sK mk mt mb) (hX : va_X bq L xs s s.heap) (hbl : bq < s.heap.size) (hbA : ¬ A bq) (x4 : Int32) (hj : j ≤ 511) (i1 : vp_in (x4 + 1) L) (i2 : vp_in (x4 + 2) L) (i3 : vp_in (x4 + 3) L) (i4 : vp_in (x4 + 4) L) (i5 : vp_in (x4 + 5) L) (hC : CI cs em xh sn9 sb F X LL a b C) (hM : MI cs sK mo F T Y M) (hEq : EqK F X Y) (hRm : Rm j F LL a b cells slots) (hw : pw D A s.heap H locs [wL cs q lv, C, M]) (hl : lv_has ls 7 [(4, .int x4), (0, .ref bq), (1, .ref xh), (2, .ref mo), (3, .ref q)])
  (K : ∀ (lv9 : Nat → Int64) (C9 M9 : va_W) (F9 T9 : Int) (X9 Y9 : KS) (LL9 a9 b9 cells9 slots9 : Nat) (H9 : Heap) (locs9 : List Loc) (ls9 : Array Slot), CI cs em xh sn9 sb F9 X9 LL9 a9 b9 C9 → MI cs sK mo F9 T9 Y9 M9 → EqK F9 X9 Y9 → Rm (j + 1) F9 LL9 a9 b9 cells9 slots9 → pw D A s.heap H9 locs9 [wL cs q lv9, C9, M9] → lv_has ls9 7 [(4, .int x4), (0, .ref bq), (1, .ref xh), (2, .ref mo), (3, .ref q)] → W p l e room_1 s m args below meth c H9 locs9 cells9 slots9 Q (F0 m 664 ls9 [])) :
  W p l e room_1 s m args below meth c H locs cells slots Q (F0 m 408 ls []) := by
  have hbd := hC.bd
  have hr0 := rm_room hRm (by omega) hbd.2.2
  have hr1 := hr0.2.2 hj
  refine lv_aload_n S.x S.b d_HomeSystemLaw_law_408 rfl (lv_at hl 2 rfl) ?_
  refine lv_aload_n S.x S.b d_HomeSystemLaw_law_409 rfl (lv_at hl 1 rfl) ?_
  refine lv_iload S.x S.b d_HomeSystemLaw_law_410 (lv_at hl 0 rfl) ?_
  refine lv_iconst (v := 1) S.x S.b d_HomeSystemLaw_law_412 (by decide) ?_
  refine lv_iadd S.x S.b d_HomeSystemLaw_law_413 ?_
  refine va_sld S.x S.b hX hbl hbA hw.2.2 (i := (x4 + 1)) i1 d_HomeSystemLaw_law_414 ?_
  refine lv_aload_n S.x S.b d_HomeSystemLaw_law_415 rfl (lv_at hl 4 rfl) ?_
  refine s_value (q := q) (lv := lv) (rest := []) S hT hA lo.lf lo.tx.1 hC hw (xs (x4 + 1).toNatClampNeg) ⟨Nat.le_of_ble_eq_true rfl, Nat.le_of_ble_eq_true rfl⟩ hl.1 (Nat.le_of_ble_eq_true rfl) d_HomeSystemLaw_law_416 ⟨by show cells + 1 ≤ 601024; omega, by show slots + 6 ≤ 7293034; omega⟩ (fun r1 lv1 C1 F1 X1 LL1 a1 b1 k1 n1 H locs hC hG hx hw => ?_)
  have hbd1 := hC.bd
  have hrm2 := rm_gr (k2 := 1) (n2 := 6) hRm hG (by omega) (by omega)
  have hrm0 := rm_gr (k2 := 0) (n2 := 0) hRm hG (by omega) (by omega)
  have hr2 := rm_room hrm2 (by omega) hbd1.2.2
  refine lv_istore (lv' := [(5, .int r1), (4, .int x4), (0, .ref bq), (1, .ref xh), (2, .ref mo), (3, .ref q)]) S.x S.b d_HomeSystemLaw_law_419 hl (by decide) rfl (fun ls hl => ?_)
  refine lv_aload_n S.x S.b d_HomeSystemLaw_law_421 rfl (lv_at hl 4 rfl) ?_
  refine lv_aload_n S.x S.b d_HomeSystemLaw_law_422 rfl (lv_at hl 2 rfl) ?_
  refine lv_iload S.x S.b d_HomeSystemLaw_law_423 (lv_at hl 1 rfl) ?_
  refine lv_iconst (v := 1) S.x S.b d_HomeSystemLaw_law_425 (by decide) ?_
  refine lv_iadd S.x S.b d_HomeSystemLaw_law_426 ?_
  refine va_sld S.x S.b hX hbl hbA hw.2.2 (i := (x4 + 1)) i1 d_HomeSystemLaw_law_427 ?_
  refine t_value (rest := []) S hT hA hM hw (xs (x4 + 1).toNatClampNeg) ⟨Nat.le_of_ble_eq_true rfl, Nat.le_of_ble_eq_true rfl⟩ hl.1 (Nat.le_of_ble_eq_true rfl) d_HomeSystemLaw_law_428 ⟨by show cells + k1 + 0 ≤ 601024; omega, by show slots + n1 + 0 ≤ 7293034; omega⟩ (fun r2 M1 G1 T1 Y1 H locs hM hy hw => ?_)
  have hxy := xy_same hbd.1 hx hy hEq
  refine lv_istore (lv' := [(6, .int r2), (5, .int r1), (4, .int x4), (0, .ref bq), (1, .ref xh), (2, .ref mo), (3, .ref q)]) S.x S.b d_HomeSystemLaw_law_431 hl (by decide) rfl (fun ls hl => ?_)
  refine lv_goto (tgt := 664) S.x S.b d_HomeSystemLaw_law_433 (by decide) ?_
  exact K lv1 C1 M1 F1 _ _ _ LL1 a1 b1 _ _ H locs ls hC (mi_eq hM (hxy.1)) hxy.2 hrm0 hw (lv_sub hl [2, 3, 4, 5, 6] rfl)
set_option maxHeartbeats 4000000 in
theorem b_436 (S : px_S p m c b_HomeSystemLaw_law 7 s args "HomeSystemLaw") (hT : Tb D cs s) (hA : ∀ q, s.heap.size ≤ q → A q) (lo : LO A s l em mi gw sk st sn9 sb sK mk mt mb) (hX : va_X bq L xs s s.heap) (hbl : bq < s.heap.size) (hbA : ¬ A bq) (x4 : Int32) (hj : j ≤ 511) (i1 : vp_in (x4 + 1) L) (i2 : vp_in (x4 + 2) L) (i3 : vp_in (x4 + 3) L) (i4 : vp_in (x4 + 4) L) (i5 : vp_in (x4 + 5) L) (hC : CI cs em xh sn9 sb F X LL a b C) (hM : MI cs sK mo F T Y M) (hEq : EqK F X Y) (hRm : Rm j F LL a b cells slots) (hw : pw D A s.heap H locs [wL cs q lv, C, M]) (hl : lv_has ls 7 [(4, .int x4), (0, .ref bq), (1, .ref xh), (2, .ref mo), (3, .ref q)])
  (K : ∀ (lv9 : Nat → Int64) (C9 M9 : va_W) (F9 T9 : Int) (X9 Y9 : KS) (LL9 a9 b9 cells9 slots9 : Nat) (H9 : Heap) (locs9 : List Loc) (ls9 : Array Slot), CI cs em xh sn9 sb F9 X9 LL9 a9 b9 C9 → MI cs sK mo F9 T9 Y9 M9 → EqK F9 X9 Y9 → Rm (j + 1) F9 LL9 a9 b9 cells9 slots9 → pw D A s.heap H9 locs9 [wL cs q lv9, C9, M9] → lv_has ls9 7 [(4, .int x4), (0, .ref bq), (1, .ref xh), (2, .ref mo), (3, .ref q)] → W p l e room_1 s m args below meth c H9 locs9 cells9 slots9 Q (F0 m 664 ls9 [])) :
  W p l e room_1 s m args below meth c H locs cells slots Q (F0 m 436 ls []) := by
  have hbd := hC.bd
  have hr0 := rm_room hRm (by omega) hbd.2.2
  have hr1 := hr0.2.2 hj
  refine lv_aload_n S.x S.b d_HomeSystemLaw_law_436 rfl (lv_at hl 2 rfl) ?_
  refine lv_aload_n S.x S.b d_HomeSystemLaw_law_437 rfl (lv_at hl 1 rfl) ?_
  refine lv_iload S.x S.b d_HomeSystemLaw_law_438 (lv_at hl 0 rfl) ?_
  refine lv_iconst (v := 1) S.x S.b d_HomeSystemLaw_law_440 (by decide) ?_
  refine lv_iadd S.x S.b d_HomeSystemLaw_law_441 ?_
  refine va_sld S.x S.b hX hbl hbA hw.2.2 (i := (x4 + 1)) i1 d_HomeSystemLaw_law_442 ?_
  refine lv_aload_n S.x S.b d_HomeSystemLaw_law_443 rfl (lv_at hl 4 rfl) ?_
  refine s_paper (q := q) (lv := lv) (rest := []) S hT hA lo.lf lo.tx.1 hC hw (xs (x4 + 1).toNatClampNeg) ⟨Nat.le_of_ble_eq_true rfl, Nat.le_of_ble_eq_true rfl⟩ hl.1 (Nat.le_of_ble_eq_true rfl) d_HomeSystemLaw_law_444 ⟨by show cells + 1 ≤ 601024; omega, by show slots + 6 ≤ 7293034; omega⟩ (fun r1 lv1 C1 F1 X1 LL1 a1 b1 k1 n1 H locs hC hG hx hw => ?_)
  have hbd1 := hC.bd
  have hrm2 := rm_gr (k2 := 1) (n2 := 6) hRm hG (by omega) (by omega)
  have hrm0 := rm_gr (k2 := 0) (n2 := 0) hRm hG (by omega) (by omega)
  have hr2 := rm_room hrm2 (by omega) hbd1.2.2
  refine lv_istore (lv' := [(5, .int r1), (4, .int x4), (0, .ref bq), (1, .ref xh), (2, .ref mo), (3, .ref q)]) S.x S.b d_HomeSystemLaw_law_447 hl (by decide) rfl (fun ls hl => ?_)
  refine lv_aload_n S.x S.b d_HomeSystemLaw_law_449 rfl (lv_at hl 4 rfl) ?_
  refine lv_aload_n S.x S.b d_HomeSystemLaw_law_450 rfl (lv_at hl 2 rfl) ?_
  refine lv_iload S.x S.b d_HomeSystemLaw_law_451 (lv_at hl 1 rfl) ?_
  refine lv_iconst (v := 1) S.x S.b d_HomeSystemLaw_law_453 (by decide) ?_
  refine lv_iadd S.x S.b d_HomeSystemLaw_law_454 ?_
  refine va_sld S.x S.b hX hbl hbA hw.2.2 (i := (x4 + 1)) i1 d_HomeSystemLaw_law_455 ?_
  refine t_paper (rest := []) S hT hA hM hw (xs (x4 + 1).toNatClampNeg) ⟨Nat.le_of_ble_eq_true rfl, Nat.le_of_ble_eq_true rfl⟩ hl.1 (Nat.le_of_ble_eq_true rfl) d_HomeSystemLaw_law_456 ⟨by show cells + k1 + 0 ≤ 601024; omega, by show slots + n1 + 0 ≤ 7293034; omega⟩ (fun r2 M1 G1 T1 Y1 H locs hM hy hw => ?_)
  have hxy := xy_same hbd.1 hx hy hEq
  refine lv_istore (lv' := [(6, .int r2), (5, .int r1), (4, .int x4), (0, .ref bq), (1, .ref xh), (2, .ref mo), (3, .ref q)]) S.x S.b d_HomeSystemLaw_law_459 hl (by decide) rfl (fun ls hl => ?_)
  refine lv_goto (tgt := 664) S.x S.b d_HomeSystemLaw_law_461 (by decide) ?_
  exact K lv1 C1 M1 F1 _ _ _ LL1 a1 b1 _ _ H locs ls hC (mi_eq hM (hxy.1)) hxy.2 hrm0 hw (lv_sub hl [2, 3, 4, 5, 6] rfl)
set_option maxHeartbeats 4000000 in
theorem b_464 (S : px_S p m c b_HomeSystemLaw_law 7 s args "HomeSystemLaw") (hT : Tb D cs s) (hA : ∀ q, s.heap.size ≤ q → A q) (lo : LO A s l em mi gw sk st sn9 sb sK mk mt mb) (hX : va_X bq L xs s s.heap) (hbl : bq < s.heap.size) (hbA : ¬ A bq) (x4 : Int32) (hj : j ≤ 511) (i1 : vp_in (x4 + 1) L) (i2 : vp_in (x4 + 2) L) (i3 : vp_in (x4 + 3) L) (i4 : vp_in (x4 + 4) L) (i5 : vp_in (x4 + 5) L) (hC : CI cs em xh sn9 sb F X LL a b C) (hM : MI cs sK mo F T Y M) (hEq : EqK F X Y) (hRm : Rm j F LL a b cells slots) (hw : pw D A s.heap H locs [wL cs q lv, C, M]) (hl : lv_has ls 7 [(4, .int x4), (0, .ref bq), (1, .ref xh), (2, .ref mo), (3, .ref q)])
  (K : ∀ (lv9 : Nat → Int64) (C9 M9 : va_W) (F9 T9 : Int) (X9 Y9 : KS) (LL9 a9 b9 cells9 slots9 : Nat) (H9 : Heap) (locs9 : List Loc) (ls9 : Array Slot), CI cs em xh sn9 sb F9 X9 LL9 a9 b9 C9 → MI cs sK mo F9 T9 Y9 M9 → EqK F9 X9 Y9 → Rm (j + 1) F9 LL9 a9 b9 cells9 slots9 → pw D A s.heap H9 locs9 [wL cs q lv9, C9, M9] → lv_has ls9 7 [(4, .int x4), (0, .ref bq), (1, .ref xh), (2, .ref mo), (3, .ref q)] → W p l e room_1 s m args below meth c H9 locs9 cells9 slots9 Q (F0 m 664 ls9 [])) :
  W p l e room_1 s m args below meth c H locs cells slots Q (F0 m 464 ls []) := by
  have hbd := hC.bd
  have hr0 := rm_room hRm (by omega) hbd.2.2
  have hr1 := hr0.2.2 hj
  refine lv_aload_n S.x S.b d_HomeSystemLaw_law_464 rfl (lv_at hl 2 rfl) ?_
  refine lv_aload_n S.x S.b d_HomeSystemLaw_law_465 rfl (lv_at hl 1 rfl) ?_
  refine lv_iload S.x S.b d_HomeSystemLaw_law_466 (lv_at hl 0 rfl) ?_
  refine lv_iconst (v := 1) S.x S.b d_HomeSystemLaw_law_468 (by decide) ?_
  refine lv_iadd S.x S.b d_HomeSystemLaw_law_469 ?_
  refine va_sld S.x S.b hX hbl hbA hw.2.2 (i := (x4 + 1)) i1 d_HomeSystemLaw_law_470 ?_
  refine lv_aload_n S.x S.b d_HomeSystemLaw_law_471 rfl (lv_at hl 1 rfl) ?_
  refine lv_iload S.x S.b d_HomeSystemLaw_law_472 (lv_at hl 0 rfl) ?_
  refine lv_iconst (v := 2) S.x S.b d_HomeSystemLaw_law_474 (by decide) ?_
  refine lv_iadd S.x S.b d_HomeSystemLaw_law_475 ?_
  refine va_sld S.x S.b hX hbl hbA hw.2.2 (i := (x4 + 2)) i2 d_HomeSystemLaw_law_476 ?_
  refine lv_aload_n S.x S.b d_HomeSystemLaw_law_477 rfl (lv_at hl 4 rfl) ?_
  refine s_paperAt (q := q) (lv := lv) (rest := []) S hT hA lo.lf lo.tx.1 hC hw (xs (x4 + 1).toNatClampNeg) (xs (x4 + 2).toNatClampNeg) ⟨Nat.le_of_ble_eq_true rfl, Nat.le_of_ble_eq_true rfl⟩ hl.1 (Nat.le_of_ble_eq_true rfl) d_HomeSystemLaw_law_478 ⟨by show cells + 1 ≤ 601024; omega, by show slots + 6 ≤ 7293034; omega⟩ (fun r1 lv1 C1 F1 X1 LL1 a1 b1 k1 n1 H locs hC hG hx hw => ?_)
  have hbd1 := hC.bd
  have hrm2 := rm_gr (k2 := 1) (n2 := 6) hRm hG (by omega) (by omega)
  have hrm0 := rm_gr (k2 := 0) (n2 := 0) hRm hG (by omega) (by omega)
  have hr2 := rm_room hrm2 (by omega) hbd1.2.2
  refine lv_istore (lv' := [(5, .int r1), (4, .int x4), (0, .ref bq), (1, .ref xh), (2, .ref mo), (3, .ref q)]) S.x S.b d_HomeSystemLaw_law_481 hl (by decide) rfl (fun ls hl => ?_)
  refine lv_aload_n S.x S.b d_HomeSystemLaw_law_483 rfl (lv_at hl 4 rfl) ?_
  refine lv_aload_n S.x S.b d_HomeSystemLaw_law_484 rfl (lv_at hl 2 rfl) ?_
  refine lv_iload S.x S.b d_HomeSystemLaw_law_485 (lv_at hl 1 rfl) ?_
  refine lv_iconst (v := 1) S.x S.b d_HomeSystemLaw_law_487 (by decide) ?_
  refine lv_iadd S.x S.b d_HomeSystemLaw_law_488 ?_
  refine va_sld S.x S.b hX hbl hbA hw.2.2 (i := (x4 + 1)) i1 d_HomeSystemLaw_law_489 ?_
  refine lv_aload_n S.x S.b d_HomeSystemLaw_law_490 rfl (lv_at hl 2 rfl) ?_
  refine lv_iload S.x S.b d_HomeSystemLaw_law_491 (lv_at hl 1 rfl) ?_
  refine lv_iconst (v := 2) S.x S.b d_HomeSystemLaw_law_493 (by decide) ?_
  refine lv_iadd S.x S.b d_HomeSystemLaw_law_494 ?_
  refine va_sld S.x S.b hX hbl hbA hw.2.2 (i := (x4 + 2)) i2 d_HomeSystemLaw_law_495 ?_
  refine t_paperAt (rest := []) S hT hA hM hw (xs (x4 + 1).toNatClampNeg) (xs (x4 + 2).toNatClampNeg) ⟨Nat.le_of_ble_eq_true rfl, Nat.le_of_ble_eq_true rfl⟩ hl.1 (Nat.le_of_ble_eq_true rfl) d_HomeSystemLaw_law_496 ⟨by show cells + k1 + 0 ≤ 601024; omega, by show slots + n1 + 0 ≤ 7293034; omega⟩ (fun r2 M1 G1 T1 Y1 H locs hM hy hw => ?_)
  have hxy := xy_same hbd.1 hx hy hEq
  refine lv_istore (lv' := [(6, .int r2), (5, .int r1), (4, .int x4), (0, .ref bq), (1, .ref xh), (2, .ref mo), (3, .ref q)]) S.x S.b d_HomeSystemLaw_law_499 hl (by decide) rfl (fun ls hl => ?_)
  refine lv_goto (tgt := 664) S.x S.b d_HomeSystemLaw_law_501 (by decide) ?_
  exact K lv1 C1 M1 F1 _ _ _ LL1 a1 b1 _ _ H locs ls hC (mi_eq hM (hxy.1)) hxy.2 hrm0 hw (lv_sub hl [2, 3, 4, 5, 6] rfl)
set_option maxHeartbeats 4000000 in
theorem b_504 (S : px_S p m c b_HomeSystemLaw_law 7 s args "HomeSystemLaw") (hT : Tb D cs s) (hA : ∀ q, s.heap.size ≤ q → A q) (lo : LO A s l em mi gw sk st sn9 sb sK mk mt mb) (hX : va_X bq L xs s s.heap) (hbl : bq < s.heap.size) (hbA : ¬ A bq) (x4 : Int32) (hj : j ≤ 511) (i1 : vp_in (x4 + 1) L) (i2 : vp_in (x4 + 2) L) (i3 : vp_in (x4 + 3) L) (i4 : vp_in (x4 + 4) L) (i5 : vp_in (x4 + 5) L) (hC : CI cs em xh sn9 sb F X LL a b C) (hM : MI cs sK mo F T Y M) (hEq : EqK F X Y) (hRm : Rm j F LL a b cells slots) (hw : pw D A s.heap H locs [wL cs q lv, C, M]) (hl : lv_has ls 7 [(4, .int x4), (0, .ref bq), (1, .ref xh), (2, .ref mo), (3, .ref q)])
  (K : ∀ (lv9 : Nat → Int64) (C9 M9 : va_W) (F9 T9 : Int) (X9 Y9 : KS) (LL9 a9 b9 cells9 slots9 : Nat) (H9 : Heap) (locs9 : List Loc) (ls9 : Array Slot), CI cs em xh sn9 sb F9 X9 LL9 a9 b9 C9 → MI cs sK mo F9 T9 Y9 M9 → EqK F9 X9 Y9 → Rm (j + 1) F9 LL9 a9 b9 cells9 slots9 → pw D A s.heap H9 locs9 [wL cs q lv9, C9, M9] → lv_has ls9 7 [(4, .int x4), (0, .ref bq), (1, .ref xh), (2, .ref mo), (3, .ref q)] → W p l e room_1 s m args below meth c H9 locs9 cells9 slots9 Q (F0 m 664 ls9 [])) :
  W p l e room_1 s m args below meth c H locs cells slots Q (F0 m 504 ls []) := by
  have hbd := hC.bd
  have hr0 := rm_room hRm (by omega) hbd.2.2
  have hr1 := hr0.2.2 hj
  refine lv_aload_n S.x S.b d_HomeSystemLaw_law_504 rfl (lv_at hl 2 rfl) ?_
  refine lv_aload_n S.x S.b d_HomeSystemLaw_law_505 rfl (lv_at hl 1 rfl) ?_
  refine lv_iload S.x S.b d_HomeSystemLaw_law_506 (lv_at hl 0 rfl) ?_
  refine lv_iconst (v := 1) S.x S.b d_HomeSystemLaw_law_508 (by decide) ?_
  refine lv_iadd S.x S.b d_HomeSystemLaw_law_509 ?_
  refine va_sld S.x S.b hX hbl hbA hw.2.2 (i := (x4 + 1)) i1 d_HomeSystemLaw_law_510 ?_
  refine lv_aload_n S.x S.b d_HomeSystemLaw_law_511 rfl (lv_at hl 1 rfl) ?_
  refine lv_iload S.x S.b d_HomeSystemLaw_law_512 (lv_at hl 0 rfl) ?_
  refine lv_iconst (v := 2) S.x S.b d_HomeSystemLaw_law_514 (by decide) ?_
  refine lv_iadd S.x S.b d_HomeSystemLaw_law_515 ?_
  refine va_sld S.x S.b hX hbl hbA hw.2.2 (i := (x4 + 2)) i2 d_HomeSystemLaw_law_516 ?_
  refine lv_if_eq (tgt := 524) S.x S.b d_HomeSystemLaw_law_517 (by decide) (fun _ => ?_) (fun _ => ?_)
  · skip
    refine lv_iconst (v := 0) S.x S.b d_HomeSystemLaw_law_524 (by decide) ?_
    refine lv_aload_n S.x S.b d_HomeSystemLaw_law_525 rfl (lv_at hl 4 rfl) ?_
    refine s_unread (q := q) (lv := lv) (rest := []) S hT hA lo.lf lo.tx.1 hC hw (xs (x4 + 1).toNatClampNeg) 0 ⟨Nat.le_of_ble_eq_true rfl, Nat.le_of_ble_eq_true rfl⟩ hl.1 (Nat.le_of_ble_eq_true rfl) d_HomeSystemLaw_law_526 ⟨by show cells + 1 ≤ 601024; omega, by show slots + 6 ≤ 7293034; omega⟩ (fun r1 lv1 C1 F1 X1 LL1 a1 b1 k1 n1 H locs hC hG hx hw => ?_)
    have hbd1 := hC.bd
    have hrm2 := rm_gr (k2 := 1) (n2 := 6) hRm hG (by omega) (by omega)
    have hrm0 := rm_gr (k2 := 0) (n2 := 0) hRm hG (by omega) (by omega)
    have hr2 := rm_room hrm2 (by omega) hbd1.2.2
    refine lv_istore (lv' := [(5, .int r1), (4, .int x4), (0, .ref bq), (1, .ref xh), (2, .ref mo), (3, .ref q)]) S.x S.b d_HomeSystemLaw_law_529 hl (by decide) rfl (fun ls hl => ?_)
    refine lv_aload_n S.x S.b d_HomeSystemLaw_law_531 rfl (lv_at hl 4 rfl) ?_
    refine lv_aload_n S.x S.b d_HomeSystemLaw_law_532 rfl (lv_at hl 2 rfl) ?_
    refine lv_iload S.x S.b d_HomeSystemLaw_law_533 (lv_at hl 1 rfl) ?_
    refine lv_iconst (v := 1) S.x S.b d_HomeSystemLaw_law_535 (by decide) ?_
    refine lv_iadd S.x S.b d_HomeSystemLaw_law_536 ?_
    refine va_sld S.x S.b hX hbl hbA hw.2.2 (i := (x4 + 1)) i1 d_HomeSystemLaw_law_537 ?_
    refine lv_aload_n S.x S.b d_HomeSystemLaw_law_538 rfl (lv_at hl 2 rfl) ?_
    refine lv_iload S.x S.b d_HomeSystemLaw_law_539 (lv_at hl 1 rfl) ?_
    refine lv_iconst (v := 2) S.x S.b d_HomeSystemLaw_law_541 (by decide) ?_
    refine lv_iadd S.x S.b d_HomeSystemLaw_law_542 ?_
    refine va_sld S.x S.b hX hbl hbA hw.2.2 (i := (x4 + 2)) i2 d_HomeSystemLaw_law_543 ?_
    refine lv_if_eq (tgt := 551) S.x S.b d_HomeSystemLaw_law_544 (by decide) (fun _ => ?_) (fun _ => ?_)
    · skip
      refine lv_iconst (v := 0) S.x S.b d_HomeSystemLaw_law_551 (by decide) ?_
      refine t_unread (rest := []) S hT hA hM hw (xs (x4 + 1).toNatClampNeg) 0 ⟨Nat.le_of_ble_eq_true rfl, Nat.le_of_ble_eq_true rfl⟩ hl.1 (Nat.le_of_ble_eq_true rfl) d_HomeSystemLaw_law_552 ⟨by show cells + k1 + 0 ≤ 601024; omega, by show slots + n1 + 0 ≤ 7293034; omega⟩ (fun r2 M1 G1 T1 Y1 H locs hM hy hw => ?_)
      have hxy := xy_same hbd.1 hx hy hEq
      refine lv_istore (lv' := [(6, .int r2), (5, .int r1), (4, .int x4), (0, .ref bq), (1, .ref xh), (2, .ref mo), (3, .ref q)]) S.x S.b d_HomeSystemLaw_law_555 hl (by decide) rfl (fun ls hl => ?_)
      refine lv_goto (tgt := 664) S.x S.b d_HomeSystemLaw_law_557 (by decide) ?_
      exact K lv1 C1 M1 F1 _ _ _ LL1 a1 b1 _ _ H locs ls hC (mi_eq hM (hxy.1)) hxy.2 hrm0 hw (lv_sub hl [2, 3, 4, 5, 6] rfl)
    · skip
      refine lv_iconst (v := 1) S.x S.b d_HomeSystemLaw_law_547 (by decide) ?_
      refine lv_goto (tgt := 552) S.x S.b d_HomeSystemLaw_law_548 (by decide) ?_
      refine t_unread (rest := []) S hT hA hM hw (xs (x4 + 1).toNatClampNeg) 1 ⟨Nat.le_of_ble_eq_true rfl, Nat.le_of_ble_eq_true rfl⟩ hl.1 (Nat.le_of_ble_eq_true rfl) d_HomeSystemLaw_law_552 ⟨by show cells + k1 + 0 ≤ 601024; omega, by show slots + n1 + 0 ≤ 7293034; omega⟩ (fun r2 M1 G1 T1 Y1 H locs hM hy hw => ?_)
      have hxy := xy_same hbd.1 hx hy hEq
      refine lv_istore (lv' := [(6, .int r2), (5, .int r1), (4, .int x4), (0, .ref bq), (1, .ref xh), (2, .ref mo), (3, .ref q)]) S.x S.b d_HomeSystemLaw_law_555 hl (by decide) rfl (fun ls hl => ?_)
      refine lv_goto (tgt := 664) S.x S.b d_HomeSystemLaw_law_557 (by decide) ?_
      exact K lv1 C1 M1 F1 _ _ _ LL1 a1 b1 _ _ H locs ls hC (mi_eq hM (hxy.1)) hxy.2 hrm0 hw (lv_sub hl [2, 3, 4, 5, 6] rfl)
  · skip
    refine lv_iconst (v := 1) S.x S.b d_HomeSystemLaw_law_520 (by decide) ?_
    refine lv_goto (tgt := 525) S.x S.b d_HomeSystemLaw_law_521 (by decide) ?_
    refine lv_aload_n S.x S.b d_HomeSystemLaw_law_525 rfl (lv_at hl 4 rfl) ?_
    refine s_unread (q := q) (lv := lv) (rest := []) S hT hA lo.lf lo.tx.1 hC hw (xs (x4 + 1).toNatClampNeg) 1 ⟨Nat.le_of_ble_eq_true rfl, Nat.le_of_ble_eq_true rfl⟩ hl.1 (Nat.le_of_ble_eq_true rfl) d_HomeSystemLaw_law_526 ⟨by show cells + 1 ≤ 601024; omega, by show slots + 6 ≤ 7293034; omega⟩ (fun r1 lv1 C1 F1 X1 LL1 a1 b1 k1 n1 H locs hC hG hx hw => ?_)
    have hbd1 := hC.bd
    have hrm2 := rm_gr (k2 := 1) (n2 := 6) hRm hG (by omega) (by omega)
    have hrm0 := rm_gr (k2 := 0) (n2 := 0) hRm hG (by omega) (by omega)
    have hr2 := rm_room hrm2 (by omega) hbd1.2.2
    refine lv_istore (lv' := [(5, .int r1), (4, .int x4), (0, .ref bq), (1, .ref xh), (2, .ref mo), (3, .ref q)]) S.x S.b d_HomeSystemLaw_law_529 hl (by decide) rfl (fun ls hl => ?_)
    refine lv_aload_n S.x S.b d_HomeSystemLaw_law_531 rfl (lv_at hl 4 rfl) ?_
    refine lv_aload_n S.x S.b d_HomeSystemLaw_law_532 rfl (lv_at hl 2 rfl) ?_
    refine lv_iload S.x S.b d_HomeSystemLaw_law_533 (lv_at hl 1 rfl) ?_
    refine lv_iconst (v := 1) S.x S.b d_HomeSystemLaw_law_535 (by decide) ?_
    refine lv_iadd S.x S.b d_HomeSystemLaw_law_536 ?_
    refine va_sld S.x S.b hX hbl hbA hw.2.2 (i := (x4 + 1)) i1 d_HomeSystemLaw_law_537 ?_
    refine lv_aload_n S.x S.b d_HomeSystemLaw_law_538 rfl (lv_at hl 2 rfl) ?_
    refine lv_iload S.x S.b d_HomeSystemLaw_law_539 (lv_at hl 1 rfl) ?_
    refine lv_iconst (v := 2) S.x S.b d_HomeSystemLaw_law_541 (by decide) ?_
    refine lv_iadd S.x S.b d_HomeSystemLaw_law_542 ?_
    refine va_sld S.x S.b hX hbl hbA hw.2.2 (i := (x4 + 2)) i2 d_HomeSystemLaw_law_543 ?_
    refine lv_if_eq (tgt := 551) S.x S.b d_HomeSystemLaw_law_544 (by decide) (fun _ => ?_) (fun _ => ?_)
    · skip
      refine lv_iconst (v := 0) S.x S.b d_HomeSystemLaw_law_551 (by decide) ?_
      refine t_unread (rest := []) S hT hA hM hw (xs (x4 + 1).toNatClampNeg) 0 ⟨Nat.le_of_ble_eq_true rfl, Nat.le_of_ble_eq_true rfl⟩ hl.1 (Nat.le_of_ble_eq_true rfl) d_HomeSystemLaw_law_552 ⟨by show cells + k1 + 0 ≤ 601024; omega, by show slots + n1 + 0 ≤ 7293034; omega⟩ (fun r2 M1 G1 T1 Y1 H locs hM hy hw => ?_)
      have hxy := xy_same hbd.1 hx hy hEq
      refine lv_istore (lv' := [(6, .int r2), (5, .int r1), (4, .int x4), (0, .ref bq), (1, .ref xh), (2, .ref mo), (3, .ref q)]) S.x S.b d_HomeSystemLaw_law_555 hl (by decide) rfl (fun ls hl => ?_)
      refine lv_goto (tgt := 664) S.x S.b d_HomeSystemLaw_law_557 (by decide) ?_
      exact K lv1 C1 M1 F1 _ _ _ LL1 a1 b1 _ _ H locs ls hC (mi_eq hM (hxy.1)) hxy.2 hrm0 hw (lv_sub hl [2, 3, 4, 5, 6] rfl)
    · skip
      refine lv_iconst (v := 1) S.x S.b d_HomeSystemLaw_law_547 (by decide) ?_
      refine lv_goto (tgt := 552) S.x S.b d_HomeSystemLaw_law_548 (by decide) ?_
      refine t_unread (rest := []) S hT hA hM hw (xs (x4 + 1).toNatClampNeg) 1 ⟨Nat.le_of_ble_eq_true rfl, Nat.le_of_ble_eq_true rfl⟩ hl.1 (Nat.le_of_ble_eq_true rfl) d_HomeSystemLaw_law_552 ⟨by show cells + k1 + 0 ≤ 601024; omega, by show slots + n1 + 0 ≤ 7293034; omega⟩ (fun r2 M1 G1 T1 Y1 H locs hM hy hw => ?_)
      have hxy := xy_same hbd.1 hx hy hEq
      refine lv_istore (lv' := [(6, .int r2), (5, .int r1), (4, .int x4), (0, .ref bq), (1, .ref xh), (2, .ref mo), (3, .ref q)]) S.x S.b d_HomeSystemLaw_law_555 hl (by decide) rfl (fun ls hl => ?_)
      refine lv_goto (tgt := 664) S.x S.b d_HomeSystemLaw_law_557 (by decide) ?_
      exact K lv1 C1 M1 F1 _ _ _ LL1 a1 b1 _ _ H locs ls hC (mi_eq hM (hxy.1)) hxy.2 hrm0 hw (lv_sub hl [2, 3, 4, 5, 6] rfl)
set_option maxHeartbeats 4000000 in
theorem b_560 (S : px_S p m c b_HomeSystemLaw_law 7 s args "HomeSystemLaw") (hT : Tb D cs s) (hA : ∀ q, s.heap.size ≤ q → A q) (lo : LO A s l em mi gw sk st sn9 sb sK mk mt mb) (hX : va_X bq L xs s s.heap) (hbl : bq < s.heap.size) (hbA : ¬ A bq) (x4 : Int32) (hj : j ≤ 511) (i1 : vp_in (x4 + 1) L) (i2 : vp_in (x4 + 2) L) (i3 : vp_in (x4 + 3) L) (i4 : vp_in (x4 + 4) L) (i5 : vp_in (x4 + 5) L) (hC : CI cs em xh sn9 sb F X LL a b C) (hM : MI cs sK mo F T Y M) (hEq : EqK F X Y) (hRm : Rm j F LL a b cells slots) (hw : pw D A s.heap H locs [wL cs q lv, C, M]) (hl : lv_has ls 7 [(4, .int x4), (0, .ref bq), (1, .ref xh), (2, .ref mo), (3, .ref q)])
  (K : ∀ (lv9 : Nat → Int64) (C9 M9 : va_W) (F9 T9 : Int) (X9 Y9 : KS) (LL9 a9 b9 cells9 slots9 : Nat) (H9 : Heap) (locs9 : List Loc) (ls9 : Array Slot), CI cs em xh sn9 sb F9 X9 LL9 a9 b9 C9 → MI cs sK mo F9 T9 Y9 M9 → EqK F9 X9 Y9 → Rm (j + 1) F9 LL9 a9 b9 cells9 slots9 → pw D A s.heap H9 locs9 [wL cs q lv9, C9, M9] → lv_has ls9 7 [(4, .int x4), (0, .ref bq), (1, .ref xh), (2, .ref mo), (3, .ref q)] → W p l e room_1 s m args below meth c H9 locs9 cells9 slots9 Q (F0 m 664 ls9 [])) :
  W p l e room_1 s m args below meth c H locs cells slots Q (F0 m 560 ls []) := by
  have hbd := hC.bd
  have hr0 := rm_room hRm (by omega) hbd.2.2
  have hr1 := hr0.2.2 hj
  refine lv_aload_n S.x S.b d_HomeSystemLaw_law_560 rfl (lv_at hl 2 rfl) ?_
  refine lv_aload_n S.x S.b d_HomeSystemLaw_law_561 rfl (lv_at hl 1 rfl) ?_
  refine lv_iload S.x S.b d_HomeSystemLaw_law_562 (lv_at hl 0 rfl) ?_
  refine lv_iconst (v := 1) S.x S.b d_HomeSystemLaw_law_564 (by decide) ?_
  refine lv_iadd S.x S.b d_HomeSystemLaw_law_565 ?_
  refine va_sld S.x S.b hX hbl hbA hw.2.2 (i := (x4 + 1)) i1 d_HomeSystemLaw_law_566 ?_
  refine lv_aload_n S.x S.b d_HomeSystemLaw_law_567 rfl (lv_at hl 4 rfl) ?_
  refine s_disk (q := q) (lv := lv) (rest := []) S hT hA lo.lf lo.tx.1 hC hw (xs (x4 + 1).toNatClampNeg) ⟨Nat.le_of_ble_eq_true rfl, Nat.le_of_ble_eq_true rfl⟩ hl.1 (Nat.le_of_ble_eq_true rfl) d_HomeSystemLaw_law_568 ⟨by show cells + 1 ≤ 601024; omega, by show slots + 6 ≤ 7293034; omega⟩ (fun r1 lv1 C1 F1 X1 LL1 a1 b1 k1 n1 H locs hC hG hx hw => ?_)
  have hbd1 := hC.bd
  have hrm2 := rm_gr (k2 := 1) (n2 := 6) hRm hG (by omega) (by omega)
  have hrm0 := rm_gr (k2 := 0) (n2 := 0) hRm hG (by omega) (by omega)
  have hr2 := rm_room hrm2 (by omega) hbd1.2.2
  refine lv_istore (lv' := [(5, .int r1), (4, .int x4), (0, .ref bq), (1, .ref xh), (2, .ref mo), (3, .ref q)]) S.x S.b d_HomeSystemLaw_law_571 hl (by decide) rfl (fun ls hl => ?_)
  refine lv_aload_n S.x S.b d_HomeSystemLaw_law_573 rfl (lv_at hl 4 rfl) ?_
  refine lv_aload_n S.x S.b d_HomeSystemLaw_law_574 rfl (lv_at hl 2 rfl) ?_
  refine lv_iload S.x S.b d_HomeSystemLaw_law_575 (lv_at hl 1 rfl) ?_
  refine lv_iconst (v := 1) S.x S.b d_HomeSystemLaw_law_577 (by decide) ?_
  refine lv_iadd S.x S.b d_HomeSystemLaw_law_578 ?_
  refine va_sld S.x S.b hX hbl hbA hw.2.2 (i := (x4 + 1)) i1 d_HomeSystemLaw_law_579 ?_
  refine t_disk (rest := []) S hT hA hM hw (xs (x4 + 1).toNatClampNeg) ⟨Nat.le_of_ble_eq_true rfl, Nat.le_of_ble_eq_true rfl⟩ hl.1 (Nat.le_of_ble_eq_true rfl) d_HomeSystemLaw_law_580 ⟨by show cells + k1 + 0 ≤ 601024; omega, by show slots + n1 + 0 ≤ 7293034; omega⟩ (fun r2 M1 G1 T1 Y1 H locs hM hy hw => ?_)
  have hxy := xy_same hbd.1 hx hy hEq
  refine lv_istore (lv' := [(6, .int r2), (5, .int r1), (4, .int x4), (0, .ref bq), (1, .ref xh), (2, .ref mo), (3, .ref q)]) S.x S.b d_HomeSystemLaw_law_583 hl (by decide) rfl (fun ls hl => ?_)
  refine lv_goto (tgt := 664) S.x S.b d_HomeSystemLaw_law_585 (by decide) ?_
  exact K lv1 C1 M1 F1 _ _ _ LL1 a1 b1 _ _ H locs ls hC (mi_eq hM (hxy.1)) hxy.2 hrm0 hw (lv_sub hl [2, 3, 4, 5, 6] rfl)
set_option maxHeartbeats 4000000 in
theorem b_588 (S : px_S p m c b_HomeSystemLaw_law 7 s args "HomeSystemLaw") (hT : Tb D cs s) (hA : ∀ q, s.heap.size ≤ q → A q) (lo : LO A s l em mi gw sk st sn9 sb sK mk mt mb) (hX : va_X bq L xs s s.heap) (hbl : bq < s.heap.size) (hbA : ¬ A bq) (x4 : Int32) (hj : j ≤ 511) (i1 : vp_in (x4 + 1) L) (i2 : vp_in (x4 + 2) L) (i3 : vp_in (x4 + 3) L) (i4 : vp_in (x4 + 4) L) (i5 : vp_in (x4 + 5) L) (hC : CI cs em xh sn9 sb F X LL a b C) (hM : MI cs sK mo F T Y M) (hEq : EqK F X Y) (hRm : Rm j F LL a b cells slots) (hw : pw D A s.heap H locs [wL cs q lv, C, M]) (hl : lv_has ls 7 [(4, .int x4), (0, .ref bq), (1, .ref xh), (2, .ref mo), (3, .ref q)])
  (K : ∀ (lv9 : Nat → Int64) (C9 M9 : va_W) (F9 T9 : Int) (X9 Y9 : KS) (LL9 a9 b9 cells9 slots9 : Nat) (H9 : Heap) (locs9 : List Loc) (ls9 : Array Slot), CI cs em xh sn9 sb F9 X9 LL9 a9 b9 C9 → MI cs sK mo F9 T9 Y9 M9 → EqK F9 X9 Y9 → Rm (j + 1) F9 LL9 a9 b9 cells9 slots9 → pw D A s.heap H9 locs9 [wL cs q lv9, C9, M9] → lv_has ls9 7 [(4, .int x4), (0, .ref bq), (1, .ref xh), (2, .ref mo), (3, .ref q)] → W p l e room_1 s m args below meth c H9 locs9 cells9 slots9 Q (F0 m 664 ls9 [])) :
  W p l e room_1 s m args below meth c H locs cells slots Q (F0 m 588 ls []) := by
  have hbd := hC.bd
  have hr0 := rm_room hRm (by omega) hbd.2.2
  have hr1 := hr0.2.2 hj
  refine lv_aload_n S.x S.b d_HomeSystemLaw_law_588 rfl (lv_at hl 2 rfl) ?_
  refine lv_aload_n S.x S.b d_HomeSystemLaw_law_589 rfl (lv_at hl 1 rfl) ?_
  refine lv_iload S.x S.b d_HomeSystemLaw_law_590 (lv_at hl 0 rfl) ?_
  refine lv_iconst (v := 1) S.x S.b d_HomeSystemLaw_law_592 (by decide) ?_
  refine lv_iadd S.x S.b d_HomeSystemLaw_law_593 ?_
  refine va_sld S.x S.b hX hbl hbA hw.2.2 (i := (x4 + 1)) i1 d_HomeSystemLaw_law_594 ?_
  refine lv_aload_n S.x S.b d_HomeSystemLaw_law_595 rfl (lv_at hl 1 rfl) ?_
  refine lv_iload S.x S.b d_HomeSystemLaw_law_596 (lv_at hl 0 rfl) ?_
  refine lv_iconst (v := 2) S.x S.b d_HomeSystemLaw_law_598 (by decide) ?_
  refine lv_iadd S.x S.b d_HomeSystemLaw_law_599 ?_
  refine va_sld S.x S.b hX hbl hbA hw.2.2 (i := (x4 + 2)) i2 d_HomeSystemLaw_law_600 ?_
  refine s_setDisk (q := q) (lv := lv) (rest := []) S hT hA lo.lf lo.tx.1 hC hw (xs (x4 + 1).toNatClampNeg) (xs (x4 + 2).toNatClampNeg) ⟨Nat.le_of_ble_eq_true rfl, Nat.le_of_ble_eq_true rfl⟩ hl.1 (Nat.le_of_ble_eq_true rfl) d_HomeSystemLaw_law_601 ⟨by show cells + 1 ≤ 601024; omega, by show slots + 6 ≤ 7293034; omega⟩ (fun r1 lv1 C1 F1 X1 LL1 a1 b1 k1 n1 H locs hC hG hx hw => ?_)
  have hbd1 := hC.bd
  have hrm2 := rm_gr (k2 := 1) (n2 := 6) hRm hG (by omega) (by omega)
  have hrm0 := rm_gr (k2 := 0) (n2 := 0) hRm hG (by omega) (by omega)
  have hr2 := rm_room hrm2 (by omega) hbd1.2.2
  refine lv_istore (lv' := [(5, .int r1), (4, .int x4), (0, .ref bq), (1, .ref xh), (2, .ref mo), (3, .ref q)]) S.x S.b d_HomeSystemLaw_law_604 hl (by decide) rfl (fun ls hl => ?_)
  refine lv_aload_n S.x S.b d_HomeSystemLaw_law_606 rfl (lv_at hl 4 rfl) ?_
  refine lv_aload_n S.x S.b d_HomeSystemLaw_law_607 rfl (lv_at hl 2 rfl) ?_
  refine lv_iload S.x S.b d_HomeSystemLaw_law_608 (lv_at hl 1 rfl) ?_
  refine lv_iconst (v := 1) S.x S.b d_HomeSystemLaw_law_610 (by decide) ?_
  refine lv_iadd S.x S.b d_HomeSystemLaw_law_611 ?_
  refine va_sld S.x S.b hX hbl hbA hw.2.2 (i := (x4 + 1)) i1 d_HomeSystemLaw_law_612 ?_
  refine lv_aload_n S.x S.b d_HomeSystemLaw_law_613 rfl (lv_at hl 2 rfl) ?_
  refine lv_iload S.x S.b d_HomeSystemLaw_law_614 (lv_at hl 1 rfl) ?_
  refine lv_iconst (v := 2) S.x S.b d_HomeSystemLaw_law_616 (by decide) ?_
  refine lv_iadd S.x S.b d_HomeSystemLaw_law_617 ?_
  refine va_sld S.x S.b hX hbl hbA hw.2.2 (i := (x4 + 2)) i2 d_HomeSystemLaw_law_618 ?_
  refine t_setDisk (rest := []) S hT hA hM hw (xs (x4 + 1).toNatClampNeg) (xs (x4 + 2).toNatClampNeg) ⟨Nat.le_of_ble_eq_true rfl, Nat.le_of_ble_eq_true rfl⟩ hl.1 (Nat.le_of_ble_eq_true rfl) d_HomeSystemLaw_law_619 ⟨by show cells + k1 + 0 ≤ 601024; omega, by show slots + n1 + 0 ≤ 7293034; omega⟩ (fun M1 G1 T1 Y1 H locs hM hy hw => ?_)
  have hxy := xy_same hbd.1 hx hy hEq
  refine lv_goto (tgt := 664) S.x S.b d_HomeSystemLaw_law_622 (by decide) ?_
  exact K lv1 C1 M1 F1 _ _ _ LL1 a1 b1 _ _ H locs ls hC (mi_eq hM (hxy.1)) hxy.2 hrm0 hw (lv_sub hl [1, 2, 3, 4, 5] rfl)
set_option maxHeartbeats 4000000 in
theorem b_625 (S : px_S p m c b_HomeSystemLaw_law 7 s args "HomeSystemLaw") (hT : Tb D cs s) (hA : ∀ q, s.heap.size ≤ q → A q) (lo : LO A s l em mi gw sk st sn9 sb sK mk mt mb) (hX : va_X bq L xs s s.heap) (hbl : bq < s.heap.size) (hbA : ¬ A bq) (x4 : Int32) (hj : j ≤ 511) (i1 : vp_in (x4 + 1) L) (i2 : vp_in (x4 + 2) L) (i3 : vp_in (x4 + 3) L) (i4 : vp_in (x4 + 4) L) (i5 : vp_in (x4 + 5) L) (hC : CI cs em xh sn9 sb F X LL a b C) (hM : MI cs sK mo F T Y M) (hEq : EqK F X Y) (hRm : Rm j F LL a b cells slots) (hw : pw D A s.heap H locs [wL cs q lv, C, M]) (hl : lv_has ls 7 [(4, .int x4), (0, .ref bq), (1, .ref xh), (2, .ref mo), (3, .ref q)])
  (K : ∀ (lv9 : Nat → Int64) (C9 M9 : va_W) (F9 T9 : Int) (X9 Y9 : KS) (LL9 a9 b9 cells9 slots9 : Nat) (H9 : Heap) (locs9 : List Loc) (ls9 : Array Slot), CI cs em xh sn9 sb F9 X9 LL9 a9 b9 C9 → MI cs sK mo F9 T9 Y9 M9 → EqK F9 X9 Y9 → Rm (j + 1) F9 LL9 a9 b9 cells9 slots9 → pw D A s.heap H9 locs9 [wL cs q lv9, C9, M9] → lv_has ls9 7 [(4, .int x4), (0, .ref bq), (1, .ref xh), (2, .ref mo), (3, .ref q)] → W p l e room_1 s m args below meth c H9 locs9 cells9 slots9 Q (F0 m 664 ls9 [])) :
  W p l e room_1 s m args below meth c H locs cells slots Q (F0 m 625 ls []) := by
  have hbd := hC.bd
  have hr0 := rm_room hRm (by omega) hbd.2.2
  have hr1 := hr0.2.2 hj
  refine lv_aload_n S.x S.b d_HomeSystemLaw_law_625 rfl (lv_at hl 2 rfl) ?_
  refine s_pages (rest := []) S hT hA hC hw ⟨Nat.le_of_ble_eq_true rfl, Nat.le_of_ble_eq_true rfl⟩ hl.1 (Nat.le_of_ble_eq_true rfl) d_HomeSystemLaw_law_626 ⟨by show cells + 0 ≤ 601024; omega, by show slots + 0 ≤ 7293034; omega⟩ (fun r1 H locs hw => ?_)
  refine lv_pop S.x S.b d_HomeSystemLaw_law_629 rfl ?_
  refine lv_aload_n S.x S.b d_HomeSystemLaw_law_630 rfl (lv_at hl 3 rfl) ?_
  refine t_pages (rest := []) S hT hA hM hw ⟨Nat.le_of_ble_eq_true rfl, Nat.le_of_ble_eq_true rfl⟩ hl.1 (Nat.le_of_ble_eq_true rfl) d_HomeSystemLaw_law_631 ⟨by show cells + 0 + 0 ≤ 601024; omega, by show slots + 0 + 0 ≤ 7293034; omega⟩ (fun r2 M1 G1 T1 Y1 H locs hM hy hw => ?_)
  have hxy := xy_same hbd.1 (show Sx_same F X 0 0 F X from ⟨rfl, rfl, rfl, fun _ => rfl⟩) hy hEq
  refine lv_pop S.x S.b d_HomeSystemLaw_law_634 rfl ?_
  refine lv_goto (tgt := 664) S.x S.b d_HomeSystemLaw_law_635 (by decide) ?_
  exact K lv C M1 F _ _ _ LL a b _ _ H locs ls hC (mi_eq hM (hxy.1)) hxy.2 (rm_gr (k2 := 0) (n2 := 0) hRm (show Gr F LL a b F LL a b 0 0 from ⟨by omega, rfl, by omega, by omega⟩) (by omega) (by omega)) hw (lv_sub hl [0, 1, 2, 3, 4] rfl)
set_option maxHeartbeats 4000000 in
theorem b_638 (S : px_S p m c b_HomeSystemLaw_law 7 s args "HomeSystemLaw") (hT : Tb D cs s) (hA : ∀ q, s.heap.size ≤ q → A q) (lo : LO A s l em mi gw sk st sn9 sb sK mk mt mb) (hX : va_X bq L xs s s.heap) (hbl : bq < s.heap.size) (hbA : ¬ A bq) (x4 : Int32) (hj : j ≤ 511) (i1 : vp_in (x4 + 1) L) (i2 : vp_in (x4 + 2) L) (i3 : vp_in (x4 + 3) L) (i4 : vp_in (x4 + 4) L) (i5 : vp_in (x4 + 5) L) (hC : CI cs em xh sn9 sb F X LL a b C) (hM : MI cs sK mo F T Y M) (hEq : EqK F X Y) (hRm : Rm j F LL a b cells slots) (hw : pw D A s.heap H locs [wL cs q lv, C, M]) (hl : lv_has ls 7 [(4, .int x4), (0, .ref bq), (1, .ref xh), (2, .ref mo), (3, .ref q)])
  (K : ∀ (lv9 : Nat → Int64) (C9 M9 : va_W) (F9 T9 : Int) (X9 Y9 : KS) (LL9 a9 b9 cells9 slots9 : Nat) (H9 : Heap) (locs9 : List Loc) (ls9 : Array Slot), CI cs em xh sn9 sb F9 X9 LL9 a9 b9 C9 → MI cs sK mo F9 T9 Y9 M9 → EqK F9 X9 Y9 → Rm (j + 1) F9 LL9 a9 b9 cells9 slots9 → pw D A s.heap H9 locs9 [wL cs q lv9, C9, M9] → lv_has ls9 7 [(4, .int x4), (0, .ref bq), (1, .ref xh), (2, .ref mo), (3, .ref q)] → W p l e room_1 s m args below meth c H9 locs9 cells9 slots9 Q (F0 m 664 ls9 [])) :
  W p l e room_1 s m args below meth c H locs cells slots Q (F0 m 638 ls []) := by
  have hbd := hC.bd
  have hr0 := rm_room hRm (by omega) hbd.2.2
  have hr1 := hr0.2.2 hj
  refine lv_aload_n S.x S.b d_HomeSystemLaw_law_638 rfl (lv_at hl 2 rfl) ?_
  refine s_wrong (rest := []) S hT hA hC hw ⟨Nat.le_of_ble_eq_true rfl, Nat.le_of_ble_eq_true rfl⟩ hl.1 (Nat.le_of_ble_eq_true rfl) d_HomeSystemLaw_law_639 ⟨by show cells + 0 ≤ 601024; omega, by show slots + 0 ≤ 7293034; omega⟩ (fun r1 H locs hw => ?_)
  refine lv_pop S.x S.b d_HomeSystemLaw_law_642 rfl ?_
  refine lv_aload_n S.x S.b d_HomeSystemLaw_law_643 rfl (lv_at hl 3 rfl) ?_
  refine t_wrong (rest := []) S hT hA hM hw ⟨Nat.le_of_ble_eq_true rfl, Nat.le_of_ble_eq_true rfl⟩ hl.1 (Nat.le_of_ble_eq_true rfl) d_HomeSystemLaw_law_644 ⟨by show cells + 0 + 0 ≤ 601024; omega, by show slots + 0 + 0 ≤ 7293034; omega⟩ (fun r2 M1 G1 T1 Y1 H locs hM hy hw => ?_)
  have hxy := xy_same hbd.1 (show Sx_same F X 0 0 F X from ⟨rfl, rfl, rfl, fun _ => rfl⟩) hy hEq
  refine lv_pop S.x S.b d_HomeSystemLaw_law_647 rfl ?_
  refine lv_goto (tgt := 664) S.x S.b d_HomeSystemLaw_law_648 (by decide) ?_
  exact K lv C M1 F _ _ _ LL a b _ _ H locs ls hC (mi_eq hM (hxy.1)) hxy.2 (rm_gr (k2 := 0) (n2 := 0) hRm (show Gr F LL a b F LL a b 0 0 from ⟨by omega, rfl, by omega, by omega⟩) (by omega) (by omega)) hw (lv_sub hl [0, 1, 2, 3, 4] rfl)
set_option maxHeartbeats 4000000 in
theorem b_651 (S : px_S p m c b_HomeSystemLaw_law 7 s args "HomeSystemLaw") (hT : Tb D cs s) (hA : ∀ q, s.heap.size ≤ q → A q) (lo : LO A s l em mi gw sk st sn9 sb sK mk mt mb) (hX : va_X bq L xs s s.heap) (hbl : bq < s.heap.size) (hbA : ¬ A bq) (x4 : Int32) (hj : j ≤ 511) (i1 : vp_in (x4 + 1) L) (i2 : vp_in (x4 + 2) L) (i3 : vp_in (x4 + 3) L) (i4 : vp_in (x4 + 4) L) (i5 : vp_in (x4 + 5) L) (hC : CI cs em xh sn9 sb F X LL a b C) (hM : MI cs sK mo F T Y M) (hEq : EqK F X Y) (hRm : Rm j F LL a b cells slots) (hw : pw D A s.heap H locs [wL cs q lv, C, M]) (hl : lv_has ls 7 [(4, .int x4), (0, .ref bq), (1, .ref xh), (2, .ref mo), (3, .ref q)])
  (K : ∀ (lv9 : Nat → Int64) (C9 M9 : va_W) (F9 T9 : Int) (X9 Y9 : KS) (LL9 a9 b9 cells9 slots9 : Nat) (H9 : Heap) (locs9 : List Loc) (ls9 : Array Slot), CI cs em xh sn9 sb F9 X9 LL9 a9 b9 C9 → MI cs sK mo F9 T9 Y9 M9 → EqK F9 X9 Y9 → Rm (j + 1) F9 LL9 a9 b9 cells9 slots9 → pw D A s.heap H9 locs9 [wL cs q lv9, C9, M9] → lv_has ls9 7 [(4, .int x4), (0, .ref bq), (1, .ref xh), (2, .ref mo), (3, .ref q)] → W p l e room_1 s m args below meth c H9 locs9 cells9 slots9 Q (F0 m 664 ls9 [])) :
  W p l e room_1 s m args below meth c H locs cells slots Q (F0 m 651 ls []) := by
  have hbd := hC.bd
  have hr0 := rm_room hRm (by omega) hbd.2.2
  have hr1 := hr0.2.2 hj
  refine lv_aload_n S.x S.b d_HomeSystemLaw_law_651 rfl (lv_at hl 2 rfl) ?_
  refine s_life (rest := []) S hT hA hC hw ⟨Nat.le_of_ble_eq_true rfl, Nat.le_of_ble_eq_true rfl⟩ hl.1 (Nat.le_of_ble_eq_true rfl) d_HomeSystemLaw_law_652 ⟨by show cells + 0 ≤ 601024; omega, by show slots + 0 ≤ 7293034; omega⟩ (fun r1 H locs hz1 hw => ?_)
  refine lv_aload_n S.x S.b d_HomeSystemLaw_law_655 rfl (lv_at hl 3 rfl) ?_
  refine t_life (rest := [.int r1]) S hT hA hM hw ⟨Nat.le_of_ble_eq_true rfl, Nat.le_of_ble_eq_true rfl⟩ hl.1 (Nat.le_of_ble_eq_true rfl) d_HomeSystemLaw_law_656 ⟨by show cells + 0 + 0 ≤ 601024; omega, by show slots + 0 + 0 ≤ 7293034; omega⟩ (fun r2 M1 G1 T1 Y1 H locs hM hy hz2 hw => ?_)
  have hxy := xy_same hbd.1 (show Sx_same F X 0 0 F X from ⟨rfl, rfl, rfl, fun _ => rfl⟩) hy hEq
  refine lv_icmp_eq (tgt := 664) S.x S.b d_HomeSystemLaw_law_659 (by decide) (fun _ => ?_) (fun hne => absurd (Int32.toInt_inj.mp (hz1.trans (hEq.1.trans hz2.symm))) hne)
  exact K lv C M1 F _ _ _ LL a b _ _ H locs ls hC (mi_eq hM (hxy.1)) hxy.2 (rm_gr (k2 := 0) (n2 := 0) hRm (show Gr F LL a b F LL a b 0 0 from ⟨by omega, rfl, by omega, by omega⟩) (by omega) (by omega)) hw (lv_sub hl [0, 1, 2, 3, 4] rfl)
end GJ
