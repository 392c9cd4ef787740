theorem m11_115 : Cond.code ⟨"HomeSystemModel", "feed", "(IIIII)V"⟩ prog_14_method_3_code 8 (Option.none : Option Jvm.ClassFile.FieldType) ∈ AL := AL_11 (List.mem_of_getElem? (i := 115) rfl) rfl
theorem m11_112 : Cond.methodLink "HomeSystemLaw" 72 ⟨"HomeSystemModel", "feed", "(IIIII)V"⟩ ∈ AL := AL_11 (List.mem_of_getElem? (i := 112) rfl) rfl
theorem m11_113 : Cond.instanceMethod ⟨"HomeSystemModel", "feed", "(IIIII)V"⟩ ∈ AL := AL_11 (List.mem_of_getElem? (i := 113) rfl) rfl
theorem m11_114 : Cond.selects "HomeSystemModel" ⟨"HomeSystemModel", "feed", "(IIIII)V"⟩ ⟨"HomeSystemModel", "feed", "(IIIII)V"⟩ ∈ AL := AL_11 (List.mem_of_getElem? (i := 114) rfl) rfl
theorem m11_119 : Cond.code ⟨"HomeSystemModel", "end", "(I)V"⟩ prog_14_method_4_code 2 (Option.none : Option Jvm.ClassFile.FieldType) ∈ AL := AL_11 (List.mem_of_getElem? (i := 119) rfl) rfl
theorem m11_116 : Cond.methodLink "HomeSystemLaw" 76 ⟨"HomeSystemModel", "end", "(I)V"⟩ ∈ AL := AL_11 (List.mem_of_getElem? (i := 116) rfl) rfl
theorem m11_117 : Cond.instanceMethod ⟨"HomeSystemModel", "end", "(I)V"⟩ ∈ AL := AL_11 (List.mem_of_getElem? (i := 117) rfl) rfl
theorem m11_118 : Cond.selects "HomeSystemModel" ⟨"HomeSystemModel", "end", "(I)V"⟩ ⟨"HomeSystemModel", "end", "(I)V"⟩ ∈ AL := AL_11 (List.mem_of_getElem? (i := 118) rfl) rfl
theorem m13_138 : Cond.code ⟨"HomeSystemModel", "place", "()I"⟩ prog_14_method_7_code 1 (Option.some FieldType.int) ∈ AL := AL_13 (List.mem_of_getElem? (i := 138) rfl) rfl
theorem m13_135 : Cond.methodLink "HomeSystemLaw" 85 ⟨"HomeSystemModel", "place", "()I"⟩ ∈ AL := AL_13 (List.mem_of_getElem? (i := 135) rfl) rfl
theorem m13_136 : Cond.instanceMethod ⟨"HomeSystemModel", "place", "()I"⟩ ∈ AL := AL_13 (List.mem_of_getElem? (i := 136) rfl) rfl
theorem m13_137 : Cond.selects "HomeSystemModel" ⟨"HomeSystemModel", "place", "()I"⟩ ⟨"HomeSystemModel", "place", "()I"⟩ ∈ AL := AL_13 (List.mem_of_getElem? (i := 137) rfl) rfl
theorem m13_146 : Cond.code ⟨"HomeSystemModel", "turn", "(I)V"⟩ prog_14_method_9_code 2 (Option.none : Option Jvm.ClassFile.FieldType) ∈ AL := AL_13 (List.mem_of_getElem? (i := 146) rfl) rfl
theorem m13_143 : Cond.methodLink "HomeSystemLaw" 91 ⟨"HomeSystemModel", "turn", "(I)V"⟩ ∈ AL := AL_13 (List.mem_of_getElem? (i := 143) rfl) rfl
theorem m13_144 : Cond.instanceMethod ⟨"HomeSystemModel", "turn", "(I)V"⟩ ∈ AL := AL_13 (List.mem_of_getElem? (i := 144) rfl) rfl
theorem m13_145 : Cond.selects "HomeSystemModel" ⟨"HomeSystemModel", "turn", "(I)V"⟩ ⟨"HomeSystemModel", "turn", "(I)V"⟩ ∈ AL := AL_13 (List.mem_of_getElem? (i := 145) rfl) rfl
theorem m14_212 : Cond.code ⟨"HomeSystemModel", "life", "()I"⟩ prog_14_method_38_code 1 (Option.some FieldType.int) ∈ AL := AL_14 (List.mem_of_getElem? (i := 212) rfl) rfl
theorem m14_209 : Cond.methodLink "HomeSystemLaw" 131 ⟨"HomeSystemModel", "life", "()I"⟩ ∈ AL := AL_14 (List.mem_of_getElem? (i := 209) rfl) rfl
theorem m14_210 : Cond.instanceMethod ⟨"HomeSystemModel", "life", "()I"⟩ ∈ AL := AL_14 (List.mem_of_getElem? (i := 210) rfl) rfl
theorem m14_211 : Cond.selects "HomeSystemModel" ⟨"HomeSystemModel", "life", "()I"⟩ ⟨"HomeSystemModel", "life", "()I"⟩ ∈ AL := AL_14 (List.mem_of_getElem? (i := 211) rfl) rfl
theorem m14_216 : Cond.code ⟨"HomeSystemModel", "pages", "()I"⟩ prog_14_method_39_code 1 (Option.some FieldType.int) ∈ AL := AL_14 (List.mem_of_getElem? (i := 216) rfl) rfl
theorem m14_213 : Cond.methodLink "HomeSystemLaw" 123 ⟨"HomeSystemModel", "pages", "()I"⟩ ∈ AL := AL_14 (List.mem_of_getElem? (i := 213) rfl) rfl
theorem m14_214 : Cond.instanceMethod ⟨"HomeSystemModel", "pages", "()I"⟩ ∈ AL := AL_14 (List.mem_of_getElem? (i := 214) rfl) rfl
theorem m14_215 : Cond.selects "HomeSystemModel" ⟨"HomeSystemModel", "pages", "()I"⟩ ⟨"HomeSystemModel", "pages", "()I"⟩ ∈ AL := AL_14 (List.mem_of_getElem? (i := 215) rfl) rfl
theorem m14_220 : Cond.code ⟨"HomeSystemModel", "wrong", "()I"⟩ prog_14_method_40_code 1 (Option.some FieldType.int) ∈ AL := AL_14 (List.mem_of_getElem? (i := 220) rfl) rfl
theorem m14_217 : Cond.methodLink "HomeSystemLaw" 127 ⟨"HomeSystemModel", "wrong", "()I"⟩ ∈ AL := AL_14 (List.mem_of_getElem? (i := 217) rfl) rfl
theorem m14_218 : Cond.instanceMethod ⟨"HomeSystemModel", "wrong", "()I"⟩ ∈ AL := AL_14 (List.mem_of_getElem? (i := 218) rfl) rfl
theorem m14_219 : Cond.selects "HomeSystemModel" ⟨"HomeSystemModel", "wrong", "()I"⟩ ⟨"HomeSystemModel", "wrong", "()I"⟩ ∈ AL := AL_14 (List.mem_of_getElem? (i := 219) rfl) rfl
theorem m14_177 : Cond.code ⟨"HomeSystemModel", "outcome", "(I)I"⟩ prog_14_method_31_code 2 (Option.some FieldType.int) ∈ AL := AL_14 (List.mem_of_getElem? (i := 177) rfl) rfl
theorem m14_174 : Cond.methodLink "HomeSystemLaw" 98 ⟨"HomeSystemModel", "outcome", "(I)I"⟩ ∈ AL := AL_14 (List.mem_of_getElem? (i := 174) rfl) rfl
theorem m14_175 : Cond.instanceMethod ⟨"HomeSystemModel", "outcome", "(I)I"⟩ ∈ AL := AL_14 (List.mem_of_getElem? (i := 175) rfl) rfl
theorem m14_176 : Cond.selects "HomeSystemModel" ⟨"HomeSystemModel", "outcome", "(I)I"⟩ ⟨"HomeSystemModel", "outcome", "(I)I"⟩ ∈ AL := AL_14 (List.mem_of_getElem? (i := 176) rfl) rfl
theorem m14_188 : Cond.code ⟨"HomeSystemModel", "value", "(I)I"⟩ prog_14_method_32_code 2 (Option.some FieldType.int) ∈ AL := AL_14 (List.mem_of_getElem? (i := 188) rfl) rfl
theorem m14_185 : Cond.methodLink "HomeSystemLaw" 101 ⟨"HomeSystemModel", "value", "(I)I"⟩ ∈ AL := AL_14 (List.mem_of_getElem? (i := 185) rfl) rfl
theorem m14_186 : Cond.instanceMethod ⟨"HomeSystemModel", "value", "(I)I"⟩ ∈ AL := AL_14 (List.mem_of_getElem? (i := 186) rfl) rfl
theorem m14_187 : Cond.selects "HomeSystemModel" ⟨"HomeSystemModel", "value", "(I)I"⟩ ⟨"HomeSystemModel", "value", "(I)I"⟩ ∈ AL := AL_14 (List.mem_of_getElem? (i := 187) rfl) rfl
theorem m14_192 : Cond.code ⟨"HomeSystemModel", "paper", "(I)I"⟩ prog_14_method_33_code 2 (Option.some FieldType.int) ∈ AL := AL_14 (List.mem_of_getElem? (i := 192) rfl) rfl
theorem m14_189 : Cond.methodLink "HomeSystemLaw" 104 ⟨"HomeSystemModel", "paper", "(I)I"⟩ ∈ AL := AL_14 (List.mem_of_getElem? (i := 189) rfl) rfl
theorem m14_190 : Cond.instanceMethod ⟨"HomeSystemModel", "paper", "(I)I"⟩ ∈ AL := AL_14 (List.mem_of_getElem? (i := 190) rfl) rfl
theorem m14_191 : Cond.selects "HomeSystemModel" ⟨"HomeSystemModel", "paper", "(I)I"⟩ ⟨"HomeSystemModel", "paper", "(I)I"⟩ ∈ AL := AL_14 (List.mem_of_getElem? (i := 191) rfl) rfl
theorem m14_196 : Cond.code ⟨"HomeSystemModel", "paperAt", "(II)I"⟩ prog_14_method_34_code 3 (Option.some FieldType.int) ∈ AL := AL_14 (List.mem_of_getElem? (i := 196) rfl) rfl
theorem m14_193 : Cond.methodLink "HomeSystemLaw" 108 ⟨"HomeSystemModel", "paperAt", "(II)I"⟩ ∈ AL := AL_14 (List.mem_of_getElem? (i := 193) rfl) rfl
theorem m14_194 : Cond.instanceMethod ⟨"HomeSystemModel", "paperAt", "(II)I"⟩ ∈ AL := AL_14 (List.mem_of_getElem? (i := 194) rfl) rfl
theorem m14_195 : Cond.selects "HomeSystemModel" ⟨"HomeSystemModel", "paperAt", "(II)I"⟩ ⟨"HomeSystemModel", "paperAt", "(II)I"⟩ ∈ AL := AL_14 (List.mem_of_getElem? (i := 195) rfl) rfl
theorem m14_200 : Cond.code ⟨"HomeSystemModel", "unread", "(IZ)I"⟩ prog_14_method_35_code 3 (Option.some FieldType.int) ∈ AL := AL_14 (List.mem_of_getElem? (i := 200) rfl) rfl
theorem m14_197 : Cond.methodLink "HomeSystemLaw" 112 ⟨"HomeSystemModel", "unread", "(IZ)I"⟩ ∈ AL := AL_14 (List.mem_of_getElem? (i := 197) rfl) rfl
theorem m14_198 : Cond.instanceMethod ⟨"HomeSystemModel", "unread", "(IZ)I"⟩ ∈ AL := AL_14 (List.mem_of_getElem? (i := 198) rfl) rfl
theorem m14_199 : Cond.selects "HomeSystemModel" ⟨"HomeSystemModel", "unread", "(IZ)I"⟩ ⟨"HomeSystemModel", "unread", "(IZ)I"⟩ ∈ AL := AL_14 (List.mem_of_getElem? (i := 199) rfl) rfl
theorem m14_204 : Cond.code ⟨"HomeSystemModel", "disk", "(I)I"⟩ prog_14_method_36_code 2 (Option.some FieldType.int) ∈ AL := AL_14 (List.mem_of_getElem? (i := 204) rfl) rfl
theorem m14_201 : Cond.methodLink "HomeSystemLaw" 115 ⟨"HomeSystemModel", "disk", "(I)I"⟩ ∈ AL := AL_14 (List.mem_of_getElem? (i := 201) rfl) rfl
theorem m14_202 : Cond.instanceMethod ⟨"HomeSystemModel", "disk", "(I)I"⟩ ∈ AL := AL_14 (List.mem_of_getElem? (i := 202) rfl) rfl
theorem m14_203 : Cond.selects "HomeSystemModel" ⟨"HomeSystemModel", "disk", "(I)I"⟩ ⟨"HomeSystemModel", "disk", "(I)I"⟩ ∈ AL := AL_14 (List.mem_of_getElem? (i := 203) rfl) rfl
theorem m14_208 : Cond.code ⟨"HomeSystemModel", "setDisk", "(II)V"⟩ prog_14_method_37_code 3 (Option.none : Option Jvm.ClassFile.FieldType) ∈ AL := AL_14 (List.mem_of_getElem? (i := 208) rfl) rfl
theorem m14_205 : Cond.methodLink "HomeSystemLaw" 119 ⟨"HomeSystemModel", "setDisk", "(II)V"⟩ ∈ AL := AL_14 (List.mem_of_getElem? (i := 205) rfl) rfl
theorem m14_206 : Cond.instanceMethod ⟨"HomeSystemModel", "setDisk", "(II)V"⟩ ∈ AL := AL_14 (List.mem_of_getElem? (i := 206) rfl) rfl
theorem m14_207 : Cond.selects "HomeSystemModel" ⟨"HomeSystemModel", "setDisk", "(II)V"⟩ ⟨"HomeSystemModel", "setDisk", "(II)V"⟩ ∈ AL := AL_14 (List.mem_of_getElem? (i := 207) rfl) rfl
theorem m13_142 : Cond.code ⟨"HomeSystemModel", "raw", "(I)I"⟩ prog_14_method_8_code 5 (Option.some FieldType.int) ∈ AL := AL_13 (List.mem_of_getElem? (i := 142) rfl) rfl
theorem m13_139 : Cond.methodLink "HomeSystemLaw" 88 ⟨"HomeSystemModel", "raw", "(I)I"⟩ ∈ AL := AL_13 (List.mem_of_getElem? (i := 139) rfl) rfl
theorem m13_140 : Cond.instanceMethod ⟨"HomeSystemModel", "raw", "(I)I"⟩ ∈ AL := AL_13 (List.mem_of_getElem? (i := 140) rfl) rfl
theorem m13_141 : Cond.selects "HomeSystemModel" ⟨"HomeSystemModel", "raw", "(I)I"⟩ ⟨"HomeSystemModel", "raw", "(I)I"⟩ ∈ AL := AL_13 (List.mem_of_getElem? (i := 141) rfl) rfl
theorem m13_151 : Cond.code ⟨"HomeSystemModel", "run", "(IIII)I"⟩ prog_14_method_28_code 8 (Option.some FieldType.int) ∈ AL := AL_13 (List.mem_of_getElem? (i := 151) rfl) rfl
theorem m13_148 : Cond.methodLink "HomeSystemLaw" 95 ⟨"HomeSystemModel", "run", "(IIII)I"⟩ ∈ AL := AL_13 (List.mem_of_getElem? (i := 148) rfl) rfl
theorem m13_149 : Cond.instanceMethod ⟨"HomeSystemModel", "run", "(IIII)I"⟩ ∈ AL := AL_13 (List.mem_of_getElem? (i := 149) rfl) rfl
theorem m13_150 : Cond.selects "HomeSystemModel" ⟨"HomeSystemModel", "run", "(IIII)I"⟩ ⟨"HomeSystemModel", "run", "(IIII)I"⟩ ∈ AL := AL_13 (List.mem_of_getElem? (i := 150) rfl) rfl
theorem m11_123 : Cond.code ⟨"HomeSystemModel", "text", "(I)I"⟩ prog_14_method_6_code 3 (Option.some FieldType.int) ∈ AL := AL_11 (List.mem_of_getElem? (i := 123) rfl) rfl
theorem m11_120 : Cond.methodLink "HomeSystemLaw" 80 ⟨"HomeSystemModel", "text", "(I)I"⟩ ∈ AL := AL_11 (List.mem_of_getElem? (i := 120) rfl) rfl
theorem m11_121 : Cond.instanceMethod ⟨"HomeSystemModel", "text", "(I)I"⟩ ∈ AL := AL_11 (List.mem_of_getElem? (i := 121) rfl) rfl
theorem m11_122 : Cond.selects "HomeSystemModel" ⟨"HomeSystemModel", "text", "(I)I"⟩ ⟨"HomeSystemModel", "text", "(I)I"⟩ ∈ AL := AL_11 (List.mem_of_getElem? (i := 122) rfl) rfl
theorem m3_34 : Cond.code ⟨"HomeSystem", "place", "()I"⟩ prog_1_method_6_code 1 (Option.some FieldType.int) ∈ AL := AL_3 (List.mem_of_getElem? (i := 34) rfl) rfl
theorem m3_31 : Cond.methodLink "HomeSystemLaw" 81 ⟨"HomeSystem", "place", "()I"⟩ ∈ AL := AL_3 (List.mem_of_getElem? (i := 31) rfl) rfl
theorem m3_32 : Cond.instanceMethod ⟨"HomeSystem", "place", "()I"⟩ ∈ AL := AL_3 (List.mem_of_getElem? (i := 32) rfl) rfl
theorem m3_33 : Cond.selects "HomeSystem" ⟨"HomeSystem", "place", "()I"⟩ ⟨"HomeSystem", "place", "()I"⟩ ∈ AL := AL_3 (List.mem_of_getElem? (i := 33) rfl) rfl
theorem m3_38 : Cond.code ⟨"HomeSystem", "pages", "()I"⟩ prog_1_method_17_code 1 (Option.some FieldType.int) ∈ AL := AL_3 (List.mem_of_getElem? (i := 38) rfl) rfl
theorem m3_35 : Cond.methodLink "HomeSystemLaw" 120 ⟨"HomeSystem", "pages", "()I"⟩ ∈ AL := AL_3 (List.mem_of_getElem? (i := 35) rfl) rfl
theorem m3_36 : Cond.instanceMethod ⟨"HomeSystem", "pages", "()I"⟩ ∈ AL := AL_3 (List.mem_of_getElem? (i := 36) rfl) rfl
theorem m3_37 : Cond.selects "HomeSystem" ⟨"HomeSystem", "pages", "()I"⟩ ⟨"HomeSystem", "pages", "()I"⟩ ∈ AL := AL_3 (List.mem_of_getElem? (i := 37) rfl) rfl
theorem m3_42 : Cond.code ⟨"HomeSystem", "wrong", "()I"⟩ prog_1_method_18_code 1 (Option.some FieldType.int) ∈ AL := AL_3 (List.mem_of_getElem? (i := 42) rfl) rfl
theorem m3_39 : Cond.methodLink "HomeSystemLaw" 124 ⟨"HomeSystem", "wrong", "()I"⟩ ∈ AL := AL_3 (List.mem_of_getElem? (i := 39) rfl) rfl
theorem m3_40 : Cond.instanceMethod ⟨"HomeSystem", "wrong", "()I"⟩ ∈ AL := AL_3 (List.mem_of_getElem? (i := 40) rfl) rfl
theorem m3_41 : Cond.selects "HomeSystem" ⟨"HomeSystem", "wrong", "()I"⟩ ⟨"HomeSystem", "wrong", "()I"⟩ ∈ AL := AL_3 (List.mem_of_getElem? (i := 41) rfl) rfl
theorem m3_46 : Cond.code ⟨"HomeSystem", "life", "()I"⟩ prog_1_method_19_code 1 (Option.some FieldType.int) ∈ AL := AL_3 (List.mem_of_getElem? (i := 46) rfl) rfl
theorem m3_43 : Cond.methodLink "HomeSystemLaw" 128 ⟨"HomeSystem", "life", "()I"⟩ ∈ AL := AL_3 (List.mem_of_getElem? (i := 43) rfl) rfl
theorem m3_44 : Cond.instanceMethod ⟨"HomeSystem", "life", "()I"⟩ ∈ AL := AL_3 (List.mem_of_getElem? (i := 44) rfl) rfl
theorem m3_45 : Cond.selects "HomeSystem" ⟨"HomeSystem", "life", "()I"⟩ ⟨"HomeSystem", "life", "()I"⟩ ∈ AL := AL_3 (List.mem_of_getElem? (i := 45) rfl) rfl
/-! THE REFERENCE as the law keeps it -/
abbrev MV : Type := (Nat → Nat) × (Nat → Int32) × (Nat → Nat → Int32) × (Nat → Nat) × (Nat → Nat → Nat) × (Nat → Option Nat) × (Nat → Nat → Int32) × (Nat → Nat → Nat → Int32) × (Nat → Pgs)
def MV.mr (v : MV) : Nat → Nat := v.1
def MV.mf (v : MV) : Nat → Int32 := v.2.1
def MV.md (v : MV) : Nat → Nat → Int32 := v.2.2.1
def MV.hq (v : MV) : Nat → Nat := v.2.2.2.1
def MV.qr (v : MV) : Nat → Nat → Nat := v.2.2.2.2.1
def MV.QO (v : MV) : Nat → Option Nat := v.2.2.2.2.2.1
def MV.QF (v : MV) : Nat → Nat → Int32 := v.2.2.2.2.2.2.1
def MV.QA (v : MV) : Nat → Nat → Nat → Int32 := v.2.2.2.2.2.2.2.1
def MV.PG (v : MV) : Nat → Pgs := v.2.2.2.2.2.2.2.2
def MV.ps (v : MV) (cs : Nat → ClassId) (mo : Nat) : List va_W := [wd_Mo cs mo v.mr (fun _ => none) v.mf v.md (gMo v.PG v.hq), fm 13 (fPr cs v.hq v.qr v.QO v.QF v.QA), fm 8 (fPg cs v.PG)]
abbrev MVok (sK : Nat → Nat → Nat) (v : MV) : Prop := (PrN v.QF) ∧ (PgA v.PG) ∧ (∀ j : Nat, j < 8 → gK sK (v.PG j).g) ∧ (0 ≤ (v.mf 2).toInt ∧ (v.mf 2).toInt ≤ 2048) ∧ (0 ≤ (v.mf 10).toInt ∧ (v.mf 10).toInt ≤ 6000)
theorem MVok.pn {sK : Nat → Nat → Nat} {v : MV} (h : MVok sK v) : PrN v.QF := h.1
theorem MVok.pg {sK : Nat → Nat → Nat} {v : MV} (h : MVok sK v) : PgA v.PG := h.2.1
theorem MVok.gk {sK : Nat → Nat → Nat} {v : MV} (h : MVok sK v) : ∀ j : Nat, j < 8 → gK sK (v.PG j).g := h.2.2.1
theorem MVok.f2 {sK : Nat → Nat → Nat} {v : MV} (h : MVok sK v) : 0 ≤ (v.mf 2).toInt ∧ (v.mf 2).toInt ≤ 2048 := h.2.2.2.1
theorem MVok.f10 {sK : Nat → Nat → Nat} {v : MV} (h : MVok sK v) : 0 ≤ (v.mf 10).toInt ∧ (v.mf 10).toInt ≤ 6000 := h.2.2.2.2
def so01 (x : Int) : Nat := if x = 0 then 1 else 0
theorem so_1 {x : Int} (h : x = 0) : so01 x = 1 := if_pos h
theorem so_0 {x : Int} (h : x ≠ 0) : so01 x = 0 := if_neg h
def MV.ks (v : MV) : KS := ((v.mf 10).toInt, v.md 1, fun j => so01 ((v.PG j).xf 66).toInt)
def MI (cs : Nat → ClassId) (sK : Nat → Nat → Nat) (mo : Nat) (G T : Int) (Y : KS) (M : va_W) : Prop := ∃ v : MV, M = (v.ps cs mo).flatten ∧ MVok sK v ∧ (v.mf 2).toInt = G ∧ (v.mf 0).toInt = T ∧ v.ks = Y
theorem pw_om {D : va_G} {A : Nat → Prop} {H0 H : Heap} {locs : List Loc} {w C : va_W} {pcs : List va_W} (h : pw D A H0 H locs [w, C, pcs.flatten]) : pw D A H0 H locs ([w, C] ++ pcs) := h.eq (by simp)
theorem pw_sm {D : va_G} {A : Nat → Prop} {H0 H : Heap} {locs : List Loc} {w C : va_W} {pcs : List va_W} (h : pw D A H0 H locs ([w, C] ++ pcs)) : pw D A H0 H locs [w, C, pcs.flatten] := h.eq (by simp)
theorem gk_S {sK : Nat → Nat → Nat} {PG PG' : Nat → Pgs} (h : ∀ j : Nat, j < 8 → gK sK (PG j).g) (e : PgS PG PG') : ∀ j : Nat, j < 8 → gK sK (PG' j).g := fun j hj => by rw [(e j).2.2]; exact h j hj
theorem i_eq0 {x : Int32} (h : x.toInt = 0) : x = 0 := Int32.toInt_inj.mp h
/-! what a call of the reference tells: G the tape's length, T what was thrown -/
abbrev Ty_feed (G : Int) (Y : KS) (p0 p1 p2 p3 p4 : Int32) (G9 : Int) (Y9 : KS) : Prop := (G + 20 ≤ 2048 ∧ G9 = G + 20 ∧ Y9.1 = Y.1 ∧ (∀ j : Nat, Y9.2.2 j = Y.2.2 j) ∧ FdB G.toNat Y.2.1 Y9.2.1 (byF p0 p1 p2 p3 p4)) ∨ (2048 < G + 20 ∧ G9 = G ∧ KSm Y Y9)
abbrev Ty_end (G : Int) (Y : KS) (p0 : Int32) (G9 : Int) (Y9 : KS) : Prop := (0 ≤ p0.toInt ∧ p0.toInt ≤ G ∧ G9 = p0.toInt ∧ KSm Y Y9) ∨ ((p0.toInt < 0 ∨ G < p0.toInt) ∧ G9 = G ∧ KSm Y Y9)
abbrev Ty_raw (G : Int) (Y : KS) (p0 : Int32) (G9 : Int) (Y9 : KS) : Prop := (0 ≤ p0.toInt ∧ p0.toInt < 8 ∧ G9 = 0 ∧ Y9.1 = Y.1 ∧ (∀ j : Nat, j ≠ p0.toNatClampNeg → Y9.2.2 j = Y.2.2 j) ∧ ((G < 4 ∧ Y9.2.2 p0.toNatClampNeg = 1) ∨ (4 ≤ G ∧ Y9.2.2 p0.toNatClampNeg = 0))) ∨ ((p0.toInt < 0 ∨ 8 ≤ p0.toInt) ∧ G9 = G ∧ KSm Y Y9)
abbrev Ty_text (G : Int) (Y : KS) (mb : Nat → Int32) (p0 : Int32) (G9 : Int) (Y9 : KS) : Prop := (0 ≤ p0.toInt ∧ p0.toInt < 8 ∧ G9 = 0 ∧ Y9.1 = Y.1 ∧ (∀ j : Nat, j ≠ p0.toNatClampNeg → Y9.2.2 j = Y.2.2 j) ∧ ∃ q0 v : Int32, q0.toInt = G ∧ RdX mb Y.2.1 q0 v ∧ ((v.toInt = 0 ∧ Y9.2.2 p0.toNatClampNeg = 0) ∨ (v.toInt ≠ 0 ∧ Y9.2.2 p0.toNatClampNeg = 1))) ∨ ((p0.toInt < 0 ∨ 8 ≤ p0.toInt) ∧ G9 = G ∧ KSm Y Y9)
abbrev Ty_run (G : Int) (Y : KS) (p0 p2 p3 : Int32) (G9 : Int) (Y9 : KS) : Prop := (((0 ≤ p0.toInt ∧ p0.toInt < 8 ∧ 0 ≤ p2.toInt ∧ p2.toInt ≤ 100 ∧ 0 ≤ p3.toInt ∧ p3.toInt ≤ 512 ∧ p2.toInt + 30 ≤ Y.1) ∧ ((Y.2.2 p0.toNatClampNeg = 1 ∧ Y9.1 = Y.1) ∨ (Y.2.2 p0.toNatClampNeg = 0 ∧ Y9.1 = Y.1 - p2.toInt - 30))) ∨ ((p0.toInt < 0 ∨ 8 ≤ p0.toInt ∨ p2.toInt < 0 ∨ 100 < p2.toInt ∨ p3.toInt < 0 ∨ 512 < p3.toInt ∨ Y.1 < p2.toInt + 30) ∧ Y9.1 = Y.1)) ∧ Y9.2.1 = Y.2.1 ∧ (∀ j : Nat, Y9.2.2 j = Y.2.2 j) ∧ G9 = G
abbrev Ty_same (G : Int) (Y : KS) (p0 : Int32) (G9 : Int) (Y9 : KS) : Prop := G9 = G ∧ KSm Y Y9
theorem mi_eq {cs : Nat → ClassId} {sK : Nat → Nat → Nat} {mo : Nat} {G G' T : Int} {Y : KS} {M : va_W} (h : MI cs sK mo G T Y M) (e : G = G') : MI cs sK mo G' T Y M := e ▸ h
/-! both told together -/
theorem eqk_m {F : Int} {X Y X1 Y1 : KS} (h : EqK F X Y) (a : KSm X X1) (b : KSm Y Y1) : EqK F X1 Y1 := ⟨by rw [a.1, b.1]; exact h.1, fun i hi => by rw [a.2.1, b.2.1]; exact h.2.1 i hi, fun j hj => by rw [a.2.2, b.2.2]; exact h.2.2 j hj⟩
theorem eqk_le {F F1 : Int} {X Y : KS} (h : EqK F X Y) (e : F1 ≤ F) : EqK F1 X Y := ⟨h.1, fun i hi => h.2.1 i (by omega), h.2.2⟩
theorem eqk_1 {F : Int} {X Y X1 Y1 : KS} {i : Nat} (h : EqK F X Y) (a1 : X1.1 = X.1) (b1 : Y1.1 = Y.1) (a : ∀ j : Nat, j ≠ i → X1.2.2 j = X.2.2 j) (b : ∀ j : Nat, j ≠ i → Y1.2.2 j = Y.2.2 j) (c : X1.2.2 i = Y1.2.2 i) : EqK 0 X1 Y1 := ⟨by rw [a1, b1]; exact h.1, fun j hj => by omega, fun j hj => by
  by_cases e : j = i
  · subst e; exact c
  · rw [a j e, b j e]; exact h.2.2 j hj⟩
theorem xy_feed {F : Int} {X Y X1 Y1 : KS} {p0 p1 p2 p3 p4 r : Int32} {F1 G1 : Int} (h0 : 0 ≤ F) (hx : Sx_feed F X p0 p1 p2 p3 p4 r F1 X1) (hy : Ty_feed F Y p0 p1 p2 p3 p4 G1 Y1) (he : EqK F X Y) : G1 = F1 ∧ EqK F1 X1 Y1 := by
  rcases hx with ⟨a1, a2, a3, a4, a5⟩ | ⟨a1, a2, a3⟩ <;> rcases hy with ⟨b1, b2, b3, b4, b5⟩ | ⟨b1, b2, b3⟩
  · refine ⟨by omega, by rw [a3, b3]; exact he.1, fun i hi => ?_, fun j hj => by rw [a4, b4]; exact he.2.2 j hj⟩
    by_cases c : i < F.toNat
    · rw [a5.1 i c, b5.1 i c]
      exact he.2.1 i (by omega)
    · have q1 := a5.2 (i - F.toNat) (by omega)
      have q2 := b5.2 (i - F.toNat) (by omega)
      rw [show F.toNat + (i - F.toNat) = i by omega] at q1 q2
      rw [q1, q2]
  · omega
  · omega
  · rw [a2, b2]
    exact ⟨rfl, eqk_m he a3 b3⟩
theorem xy_end {F : Int} {X Y X1 Y1 : KS} {p0 r : Int32} {F1 G1 : Int} (h0 : 0 ≤ F) (hx : Sx_end F X p0 r F1 X1) (hy : Ty_end F Y p0 G1 Y1) (he : EqK F X Y) : G1 = F1 ∧ EqK F1 X1 Y1 := by
  rcases hx with ⟨a1, a2, a3, a4⟩ | ⟨a1, a2, a3⟩ <;> rcases hy with ⟨b1, b2, b3, b4⟩ | ⟨b1, b2, b3⟩
  · exact ⟨by omega, eqk_le (eqk_m he a4 b4) (by omega)⟩
  · omega
  · omega
  · exact ⟨by omega, eqk_le (eqk_m he a3 b3) (by omega)⟩
theorem xy_raw {F : Int} {X Y X1 Y1 : KS} {p0 r : Int32} {F1 G1 : Int} (h0 : 0 ≤ F) (hx : Sx_raw F X p0 r F1 X1) (hy : Ty_raw F Y p0 G1 Y1) (he : EqK F X Y) : G1 = F1 ∧ EqK F1 X1 Y1 := by
  rcases hx with ⟨a1, a2, a3, a4, a5, a6⟩ | ⟨a1, a2, a3⟩ <;> rcases hy with ⟨b1, b2, b3, b4, b5, b6⟩ | ⟨b1, b2, b3⟩
  · rw [a3]
    exact ⟨b3, eqk_1 he a4 b4 a5 b5 (by omega)⟩
  · omega
  · omega
  · exact ⟨by omega, eqk_le (eqk_m he a3 b3) (by omega)⟩
theorem xy_text {F : Int} {X Y X1 Y1 : KS} {mb : Nat → Int32} {p0 r : Int32} {F1 G1 : Int} (h0 : 0 ≤ F) (hm : ∀ j : Nat, j < 4 → mnW[j]? = some (mb j).toInt) (hx : Sx_text F X p0 r F1 X1) (hy : Ty_text F Y mb p0 G1 Y1) (he : EqK F X Y) : G1 = F1 ∧ EqK F1 X1 Y1 := by
  rcases hx with ⟨a1, a2, a3, a4, a5, v, a6, a7⟩ | ⟨a1, a2, a3⟩ <;> rcases hy with ⟨b1, b2, b3, b4, b5, q0, w, b6, b7, b8⟩ | ⟨b1, b2, b3⟩
  · rw [a3]
    have q := a6 mb Y.2.1 q0 w b6 he.2.1 hm b7
    refine ⟨b3, eqk_1 he a4 b4 a5 b5 ?_⟩
    rcases a7 with ⟨c1, c2⟩ | ⟨c1, c2⟩ <;> rcases b8 with ⟨d1, d2⟩ | ⟨d1, d2⟩
    · rw [c2, d2]
    · exact absurd (q.mp c1) d1
    · exact absurd (q.mpr d1) c1
    · rw [c2, d2]
  · omega
  · omega
  · exact ⟨by omega, eqk_le (eqk_m he a3 b3) (by omega)⟩
theorem xy_run {F : Int} {X Y X1 Y1 : KS} {p0 p2 p3 r : Int32} {F1 G1 : Int} (h0 : 0 ≤ F) (hx : Sx_run F X p0 p2 p3 r F1 X1) (hy : Ty_run F Y p0 p2 p3 G1 Y1) (he : EqK F X Y) : G1 = F1 ∧ EqK F1 X1 Y1 := by
  obtain ⟨hx, a2, a3, a4⟩ := hx
  obtain ⟨hy, b2, b3, b4⟩ := hy
  have h1 := he.1
  refine ⟨by omega, ?_, fun i hi => by rw [a2, b2]; exact he.2.1 i (by omega), fun j hj => by rw [a3, b3]; exact he.2.2 j hj⟩
  rcases hx with ⟨⟨c1, c2, c3, c4, c5, c6, c7⟩, c8⟩ | ⟨c1, c2⟩ <;> rcases hy with ⟨⟨d1, d2, d3, d4, d5, d6, d7⟩, d8⟩ | ⟨d1, d2⟩
  · have q := he.2.2 p0.toNatClampNeg (by have h9 := cl_nat (x := p0) c1; omega)
    omega
  · omega
  · omega
  · omega
theorem xy_same {F : Int} {X Y X1 Y1 : KS} {p0 p1 r : Int32} {F1 G1 : Int} (h0 : 0 ≤ F) (hx : Sx_same F X p0 r F1 X1) (hy : Ty_same F Y p1 G1 Y1) (he : EqK F X Y) : G1 = F1 ∧ EqK F1 X1 Y1 := by
  rw [hx.1, hy.1]
  exact ⟨rfl, eqk_m he hx.2 hy.2⟩
theorem lg_cmp0 {x y : Int64} (h : x = y) : lg_cmp x y = 0 := by subst h; simp [lg_cmp]
theorem px_lald {p : Program} {l : Launch} {e : Env} {R : Room} {s : State} {m : MethodId} {args : Array Value} {below : List Frame} {meth : Method} {c : Code} {H H0 : Heap} {locs : List Loc} {cells slots : Nat} {Q : State → Prop} {cc : ByteArray} {pc nL a : Nat} {ls : Array Slot} {rest : List Value} {D : va_G} {A : Nat → Prop} {cs : Nat → ClassId} {ps : List va_W} {w : va_W} {own : String} (S : px_S p m c cc nL s args own) (hT : Tb D cs s) (hw : pw D A H0 H locs ps) (i j : Nat) {n : Nat} {f : Nat → Int64} (hi : ps[i]? = some w) (he : w[j]? = some (a, .inl (cs 4, n, .inr (.inl f)))) {x : Int32} (hin : vp_in x n) (hdg : decode cc pc = .ok (.laload, 1))
    (kk : W p l e R s m args below meth c H locs cells slots Q (F0 m (pc + 1) ls (.long (f x.toNatClampNeg) :: rest))) : W p l e R s m args below meth c H locs cells slots Q (F0 m pc ls (.int x :: .ref a :: rest)) := va_lald S.x S.b hT.1 hw.1 (pp_off ps i + j) 4 (pp_get he ps i hi) rfl hin hdg kk
section GH
variable {p : Program} {l : Launch} {e : Env} {R : Room} {s : State} {m : MethodId} {args : Array Value} {below : List Frame} {meth : Method} {c : Code} {H : Heap} {locs : List Loc} {cells slots : Nat} {Q : State → Prop}
variable {cc : ByteArray} {pc nL : Nat} {ls : Array Slot} {rest : List Value} {D : va_G} {A : Nat → Prop} {cs : Nat → ClassId} {mo : Nat} {sK : Nat → Nat → Nat} {G T : Int} {Y : KS} {w C M : va_W}
set_option maxHeartbeats 4000000 in
theorem t_feed (S : px_S p m c cc nL s args "HomeSystemLaw") (hT : Tb D cs s) (hA : ∀ q, s.heap.size ≤ q → A q) (hM : MI cs sK mo G T Y M) (hw : pw D A s.heap H locs [w, C, M]) (p0 p1 p2 p3 p4 : Int32) (hR : 1 ≤ R.frames ∧ 27 ≤ R.locals) (hl : ls.size = nL) (hrm : (rest.map fun v => v.category).sum ≤ 8) (hdg : decode cc pc = .ok (.invokevirtual 72, 3)) (hf : cells + 0 ≤ R.cells ∧ slots + 0 ≤ R.slots)
  (kk : ∀ (M9 : va_W) (G9 T9 : Int) (Y9 : KS) (H1 : Heap) (locs1 : List Loc), MI cs sK mo G9 T9 Y9 M9 → Ty_feed G Y p0 p1 p2 p3 p4 G9 Y9 → pw D A s.heap H1 locs1 [w, C, M9] → W p l e R s m args below meth c H1 locs1 (cells + 0) (slots + 0) Q (F0 m (pc + 3) ls rest)) :
  W p l e R s m args below meth c H locs cells slots Q (F0 m pc ls ([.int p4, .int p3, .int p2, .int p1, .int p0, .ref mo] ++ rest)) := by
  obtain ⟨v, rfl, ok, hG, hT9, hY⟩ := hM
  subst hY
  have h2a := ok.f2.1; have h2b := ok.f2.2; have h10a := ok.f10.1; have h10b := ok.f10.2
  have hw1 : pw D A s.heap H locs ([w, C] ++ [wd_Mo cs mo v.mr (fun _ => none) v.mf v.md (gMo v.PG v.hq), fm 13 (fPr cs v.hq v.qr v.QO v.QF v.QA), fm 8 (fPg cs v.PG)]) := pw_om hw
  refine px_callv (pr := [w, C]) (pcs := [wd_Mo cs mo v.mr (fun _ => none) v.mf v.md (gMo v.PG v.hq), fm 13 (fPr cs v.hq v.qr v.QO v.QF v.QA), fm 8 (fPg cs v.PG)]) (px_runV (As := [.int p0, .int p1, .int p2, .int p3, .int p4]) (rest := rest) S (c_mo_feed l D cs mo v.mr v.mf v.md v.hq v.qr v.QO v.QF v.QA v.PG p0 p1 p2 p3 p4 (show 0 ≤ (v.mf 2).toInt from by omega) (show (v.mf 2).toInt ≤ 2048 from by omega) ok.pn ok.pg _) hT (pr := [w, C]) (pcs := [wd_Mo cs mo v.mr (fun _ => none) v.mf v.md (gMo v.PG v.hq), fm 13 (fPr cs v.hq v.qr v.QO v.QF v.QA), fm 8 (fPg cs v.PG)]) hw1 px_X.tt (px_recv hT hw1 2 0 rfl rfl rfl) m11_115 m11_112 m11_113 m11_114 m1_20 q_Mo_feed hR hl rfl hrm hdg hf) hw1 hA (fun p1 H1 locs1 hp hw => ?_)
  obtain ⟨mf9, md9, e0, e1, e2, e3, e4, e5, e6⟩ := hp
  subst e0
  have hfm := feed_m e6 ⟨h2a, h2b⟩
  have hty : Ty_feed G (MV.ks v) p0 p1 p2 p3 p4 (mf9 2).toInt (MV.ks (⟨v.mr, mf9, md9, v.hq, v.qr, v.QO, v.QF, v.QA, v.PG⟩ : MV)) := by
    rcases e5 with ⟨d1, d2, d3⟩ | ⟨d1, d2, d3⟩
    · exact Or.inl ⟨by omega, by omega, (show (mf9 10).toInt = (v.mf 10).toInt from by omega), fun _ => rfl, (by rw [← hG]; exact hfm.1 d1)⟩
    · exact Or.inr ⟨by omega, by omega, (show (mf9 10).toInt = (v.mf 10).toInt from by omega), congrFun (hfm.2 d1) 1, fun _ => rfl⟩
  exact kk _ (mf9 2).toInt (mf9 0).toInt _ H1 locs1 ⟨(⟨v.mr, mf9, md9, v.hq, v.qr, v.QO, v.QF, v.QA, v.PG⟩ : MV), rfl, ⟨ok.pn, ok.pg, ok.gk, (show 0 ≤ (mf9 2).toInt ∧ (mf9 2).toInt ≤ 2048 from by omega), (show 0 ≤ (mf9 10).toInt ∧ (mf9 10).toInt ≤ 6000 from by omega)⟩, rfl, rfl, rfl⟩ hty (pw_sm (pcs := MV.ps (⟨v.mr, mf9, md9, v.hq, v.qr, v.QO, v.QF, v.QA, v.PG⟩ : MV) cs mo) hw)
set_option maxHeartbeats 4000000 in
theorem t_end (S : px_S p m c cc nL s args "HomeSystemLaw") (hT : Tb D cs s) (hA : ∀ q, s.heap.size ≤ q → A q) (hM : MI cs sK mo G T Y M) (hw : pw D A s.heap H locs [w, C, M]) (p0 : Int32) (hR : 1 ≤ R.frames ∧ 21 ≤ R.locals) (hl : ls.size = nL) (hrm : (rest.map fun v => v.category).sum ≤ 8) (hdg : decode cc pc = .ok (.invokevirtual 76, 3)) (hf : cells + 0 ≤ R.cells ∧ slots + 0 ≤ R.slots)
  (kk : ∀ (M9 : va_W) (G9 T9 : Int) (Y9 : KS) (H1 : Heap) (locs1 : List Loc), MI cs sK mo G9 T9 Y9 M9 → Ty_end G Y p0 G9 Y9 → pw D A s.heap H1 locs1 [w, C, M9] → W p l e R s m args below meth c H1 locs1 (cells + 0) (slots + 0) Q (F0 m (pc + 3) ls rest)) :
  W p l e R s m args below meth c H locs cells slots Q (F0 m pc ls ([.int p0, .ref mo] ++ rest)) := by
  obtain ⟨v, rfl, ok, hG, hT9, hY⟩ := hM
  subst hY
  have h2a := ok.f2.1; have h2b := ok.f2.2; have h10a := ok.f10.1; have h10b := ok.f10.2
  have hw1 : pw D A s.heap H locs ([w, C] ++ [wd_Mo cs mo v.mr (fun _ => none) v.mf v.md (gMo v.PG v.hq), fm 13 (fPr cs v.hq v.qr v.QO v.QF v.QA), fm 8 (fPg cs v.PG)]) := pw_om hw
  refine px_callv (pr := [w, C]) (pcs := [wd_Mo cs mo v.mr (fun _ => none) v.mf v.md (gMo v.PG v.hq), fm 13 (fPr cs v.hq v.qr v.QO v.QF v.QA), fm 8 (fPg cs v.PG)]) (px_runV (As := [.int p0]) (rest := rest) S (c_mo_end l D cs mo v.mr v.md v.mf v.hq v.qr v.QO v.QF v.QA v.PG p0 (show 0 ≤ (v.mf 2).toInt from by omega) (show (v.mf 2).toInt ≤ 2048 from by omega) ok.pn ok.pg _) hT (pr := [w, C]) (pcs := [wd_Mo cs mo v.mr (fun _ => none) v.mf v.md (gMo v.PG v.hq), fm 13 (fPr cs v.hq v.qr v.QO v.QF v.QA), fm 8 (fPg cs v.PG)]) hw1 px_X.tt (px_recv hT hw1 2 0 rfl rfl rfl) m11_119 m11_116 m11_117 m11_118 m1_20 q_Mo_end hR hl rfl hrm hdg hf) hw1 hA (fun p1 H1 locs1 hp hw => ?_)
  obtain ⟨mf9, e0, e1, e2, e3, e4, e5⟩ := hp
  subst e0
  have hty : Ty_end G (MV.ks v) p0 (mf9 2).toInt (MV.ks (⟨v.mr, mf9, v.md, v.hq, v.qr, v.QO, v.QF, v.QA, v.PG⟩ : MV)) := by
    rcases e5 with ⟨d1, d2, d3, d4⟩ | ⟨d1, d2, d3⟩
    · exact Or.inl ⟨d2, by omega, d4, ⟨(show (mf9 10).toInt = (v.mf 10).toInt from by omega), rfl, fun _ => rfl⟩⟩
    · exact Or.inr ⟨by omega, by omega, ⟨(show (mf9 10).toInt = (v.mf 10).toInt from by omega), rfl, fun _ => rfl⟩⟩
  exact kk _ (mf9 2).toInt (mf9 0).toInt _ H1 locs1 ⟨(⟨v.mr, mf9, v.md, v.hq, v.qr, v.QO, v.QF, v.QA, v.PG⟩ : MV), rfl, ⟨ok.pn, ok.pg, ok.gk, (show 0 ≤ (mf9 2).toInt ∧ (mf9 2).toInt ≤ 2048 from by omega), (show 0 ≤ (mf9 10).toInt ∧ (mf9 10).toInt ≤ 6000 from by omega)⟩, rfl, rfl, rfl⟩ hty (pw_sm (pcs := MV.ps (⟨v.mr, mf9, v.md, v.hq, v.qr, v.QO, v.QF, v.QA, v.PG⟩ : MV) cs mo) hw)
set_option maxHeartbeats 4000000 in
theorem t_place (S : px_S p m c cc nL s args "HomeSystemLaw") (hT : Tb D cs s) (hA : ∀ q, s.heap.size ≤ q → A q) (hM : MI cs sK mo G T Y M) (hw : pw D A s.heap H locs [w, C, M]) (hR : 1 ≤ R.frames ∧ 20 ≤ R.locals) (hl : ls.size = nL) (hrm : (rest.map fun v => v.category).sum ≤ 8) (hdg : decode cc pc = .ok (.invokevirtual 85, 3)) (hf : cells + 0 ≤ R.cells ∧ slots + 0 ≤ R.slots)
  (kk : ∀ (r : Int32) (M9 : va_W) (G9 T9 : Int) (Y9 : KS) (H1 : Heap) (locs1 : List Loc), MI cs sK mo G9 T9 Y9 M9 → Ty_same G Y 0 G9 Y9 → pw D A s.heap H1 locs1 [w, C, M9] → W p l e R s m args below meth c H1 locs1 (cells + 0) (slots + 0) Q (F0 m (pc + 3) ls (.int r :: rest))) :
  W p l e R s m args below meth c H locs cells slots Q (F0 m pc ls ([.ref mo] ++ rest)) := by
  obtain ⟨v, rfl, ok, hG, hT9, hY⟩ := hM
  subst hY
  have h2a := ok.f2.1; have h2b := ok.f2.2; have h10a := ok.f10.1; have h10b := ok.f10.2
  have hw1 : pw D A s.heap H locs ([w, C] ++ [wd_Mo cs mo v.mr (fun _ => none) v.mf v.md (gMo v.PG v.hq), fm 13 (fPr cs v.hq v.qr v.QO v.QF v.QA), fm 8 (fPg cs v.PG)]) := pw_om hw
  refine px_calli (pr := [w, C]) (pcs := [wd_Mo cs mo v.mr (fun _ => none) v.mf v.md (gMo v.PG v.hq), fm 13 (fPr cs v.hq v.qr v.QO v.QF v.QA), fm 8 (fPg cs v.PG)]) (px_runV (As := []) (rest := rest) S (c_mo_place l D cs mo v.mr v.md v.mf v.hq v.qr v.QO v.QF v.QA v.PG ok.pn ok.pg _) hT (pr := [w, C]) (pcs := [wd_Mo cs mo v.mr (fun _ => none) v.mf v.md (gMo v.PG v.hq), fm 13 (fPr cs v.hq v.qr v.QO v.QF v.QA), fm 8 (fPg cs v.PG)]) hw1 px_X.tt (px_recv hT hw1 2 0 rfl rfl rfl) m13_138 m13_135 m13_136 m13_137 m1_20 q_Mo_place hR hl rfl hrm hdg hf) hw1 hA (fun r p1 H1 locs1 hp hw => ?_)
  obtain ⟨mf9, e0, e1, e2, e3⟩ := hp
  subst e0
  have hty : Ty_same G (MV.ks v) 0 (mf9 2).toInt (MV.ks (⟨v.mr, mf9, v.md, v.hq, v.qr, v.QO, v.QF, v.QA, v.PG⟩ : MV)) := ⟨by omega, ⟨(show (mf9 10).toInt = (v.mf 10).toInt from by omega), rfl, fun _ => rfl⟩⟩
  exact kk r _ (mf9 2).toInt (mf9 0).toInt _ H1 locs1 ⟨(⟨v.mr, mf9, v.md, v.hq, v.qr, v.QO, v.QF, v.QA, v.PG⟩ : MV), rfl, ⟨ok.pn, ok.pg, ok.gk, (show 0 ≤ (mf9 2).toInt ∧ (mf9 2).toInt ≤ 2048 from by omega), (show 0 ≤ (mf9 10).toInt ∧ (mf9 10).toInt ≤ 6000 from by omega)⟩, rfl, rfl, rfl⟩ hty (pw_sm (pcs := MV.ps (⟨v.mr, mf9, v.md, v.hq, v.qr, v.QO, v.QF, v.QA, v.PG⟩ : MV) cs mo) hw)
set_option maxHeartbeats 4000000 in
theorem t_turn (S : px_S p m c cc nL s args "HomeSystemLaw") (hT : Tb D cs s) (hA : ∀ q, s.heap.size ≤ q → A q) (hM : MI cs sK mo G T Y M) (hw : pw D A s.heap H locs [w, C, M]) (p0 : Int32) (hR : 1 ≤ R.frames ∧ 21 ≤ R.locals) (hl : ls.size = nL) (hrm : (rest.map fun v => v.category).sum ≤ 8) (hdg : decode cc pc = .ok (.invokevirtual 91, 3)) (hf : cells + 0 ≤ R.cells ∧ slots + 0 ≤ R.slots)
  (kk : ∀ (M9 : va_W) (G9 T9 : Int) (Y9 : KS) (H1 : Heap) (locs1 : List Loc), MI cs sK mo G9 T9 Y9 M9 → Ty_same G Y p0 G9 Y9 → pw D A s.heap H1 locs1 [w, C, M9] → W p l e R s m args below meth c H1 locs1 (cells + 0) (slots + 0) Q (F0 m (pc + 3) ls rest)) :
  W p l e R s m args below meth c H locs cells slots Q (F0 m pc ls ([.int p0, .ref mo] ++ rest)) := by
  obtain ⟨v, rfl, ok, hG, hT9, hY⟩ := hM
  subst hY
  have h2a := ok.f2.1; have h2b := ok.f2.2; have h10a := ok.f10.1; have h10b := ok.f10.2
  have hw1 : pw D A s.heap H locs ([w, C] ++ [wd_Mo cs mo v.mr (fun _ => none) v.mf v.md (gMo v.PG v.hq), fm 13 (fPr cs v.hq v.qr v.QO v.QF v.QA), fm 8 (fPg cs v.PG)]) := pw_om hw
  refine px_callv (pr := [w, C]) (pcs := [wd_Mo cs mo v.mr (fun _ => none) v.mf v.md (gMo v.PG v.hq), fm 13 (fPr cs v.hq v.qr v.QO v.QF v.QA), fm 8 (fPg cs v.PG)]) (px_runV (As := [.int p0]) (rest := rest) S (c_mo_turn l D cs mo v.mr v.md v.mf v.hq v.qr v.QO v.QF v.QA v.PG p0 ok.pn ok.pg _) hT (pr := [w, C]) (pcs := [wd_Mo cs mo v.mr (fun _ => none) v.mf v.md (gMo v.PG v.hq), fm 13 (fPr cs v.hq v.qr v.QO v.QF v.QA), fm 8 (fPg cs v.PG)]) hw1 px_X.tt (px_recv hT hw1 2 0 rfl rfl rfl) m13_146 m13_143 m13_144 m13_145 m1_20 q_Mo_turn hR hl rfl hrm hdg hf) hw1 hA (fun p1 H1 locs1 hp hw => ?_)
  obtain ⟨mf9, e0, e1, e2, e3, e4⟩ := hp
  subst e0
  have hty : Ty_same G (MV.ks v) p0 (mf9 2).toInt (MV.ks (⟨v.mr, mf9, v.md, v.hq, v.qr, v.QO, v.QF, v.QA, v.PG⟩ : MV)) := ⟨by omega, ⟨(show (mf9 10).toInt = (v.mf 10).toInt from by omega), rfl, fun _ => rfl⟩⟩
  exact kk _ (mf9 2).toInt (mf9 0).toInt _ H1 locs1 ⟨(⟨v.mr, mf9, v.md, v.hq, v.qr, v.QO, v.QF, v.QA, v.PG⟩ : MV), rfl, ⟨ok.pn, ok.pg, ok.gk, (show 0 ≤ (mf9 2).toInt ∧ (mf9 2).toInt ≤ 2048 from by omega), (show 0 ≤ (mf9 10).toInt ∧ (mf9 10).toInt ≤ 6000 from by omega)⟩, rfl, rfl, rfl⟩ hty (pw_sm (pcs := MV.ps (⟨v.mr, mf9, v.md, v.hq, v.qr, v.QO, v.QF, v.QA, v.PG⟩ : MV) cs mo) hw)
set_option maxHeartbeats 4000000 in
theorem t_life (S : px_S p m c cc nL s args "HomeSystemLaw") (hT : Tb D cs s) (hA : ∀ q, s.heap.size ≤ q → A q) (hM : MI cs sK mo G T Y M) (hw : pw D A s.heap H locs [w, C, M]) (hR : 1 ≤ R.frames ∧ 20 ≤ R.locals) (hl : ls.size = nL) (hrm : (rest.map fun v => v.category).sum ≤ 8) (hdg : decode cc pc = .ok (.invokevirtual 131, 3)) (hf : cells + 0 ≤ R.cells ∧ slots + 0 ≤ R.slots)
  (kk : ∀ (r : Int32) (M9 : va_W) (G9 T9 : Int) (Y9 : KS) (H1 : Heap) (locs1 : List Loc), MI cs sK mo G9 T9 Y9 M9 → Ty_same G Y 0 G9 Y9 → r.toInt = Y.1 → pw D A s.heap H1 locs1 [w, C, M9] → W p l e R s m args below meth c H1 locs1 (cells + 0) (slots + 0) Q (F0 m (pc + 3) ls (.int r :: rest))) :
  W p l e R s m args below meth c H locs cells slots Q (F0 m pc ls ([.ref mo] ++ rest)) := by
  obtain ⟨v, rfl, ok, hG, hT9, hY⟩ := hM
  subst hY
  have h2a := ok.f2.1; have h2b := ok.f2.2; have h10a := ok.f10.1; have h10b := ok.f10.2
  have hw1 : pw D A s.heap H locs ([w, C] ++ [wd_Mo cs mo v.mr (fun _ => none) v.mf v.md (gMo v.PG v.hq), fm 13 (fPr cs v.hq v.qr v.QO v.QF v.QA), fm 8 (fPg cs v.PG)]) := pw_om hw
  refine px_calli (pr := [w, C]) (pcs := [wd_Mo cs mo v.mr (fun _ => none) v.mf v.md (gMo v.PG v.hq), fm 13 (fPr cs v.hq v.qr v.QO v.QF v.QA), fm 8 (fPg cs v.PG)]) (px_runV (As := []) (rest := rest) S (c_mo_life l D cs mo v.mr v.md v.mf v.hq v.qr v.QO v.QF v.QA v.PG ok.pn ok.pg _) hT (pr := [w, C]) (pcs := [wd_Mo cs mo v.mr (fun _ => none) v.mf v.md (gMo v.PG v.hq), fm 13 (fPr cs v.hq v.qr v.QO v.QF v.QA), fm 8 (fPg cs v.PG)]) hw1 px_X.tt (px_recv hT hw1 2 0 rfl rfl rfl) m14_212 m14_209 m14_210 m14_211 m1_20 q_Mo_life hR hl rfl hrm hdg hf) hw1 hA (fun r p1 H1 locs1 hp hw => ?_)
  obtain ⟨mf9, e0, e1, e2, e3, e4⟩ := hp
  subst e0
  have hty : Ty_same G (MV.ks v) 0 (mf9 2).toInt (MV.ks (⟨v.mr, mf9, v.md, v.hq, v.qr, v.QO, v.QF, v.QA, v.PG⟩ : MV)) := ⟨by omega, ⟨(show (mf9 10).toInt = (v.mf 10).toInt from by omega), rfl, fun _ => rfl⟩⟩
  exact kk r _ (mf9 2).toInt (mf9 0).toInt _ H1 locs1 ⟨(⟨v.mr, mf9, v.md, v.hq, v.qr, v.QO, v.QF, v.QA, v.PG⟩ : MV), rfl, ⟨ok.pn, ok.pg, ok.gk, (show 0 ≤ (mf9 2).toInt ∧ (mf9 2).toInt ≤ 2048 from by omega), (show 0 ≤ (mf9 10).toInt ∧ (mf9 10).toInt ≤ 6000 from by omega)⟩, rfl, rfl, rfl⟩ hty (show r.toInt = (v.mf 10).toInt from by omega) (pw_sm (pcs := MV.ps (⟨v.mr, mf9, v.md, v.hq, v.qr, v.QO, v.QF, v.QA, v.PG⟩ : MV) cs mo) hw)
set_option maxHeartbeats 4000000 in
theorem t_pages (S : px_S p m c cc nL s args "HomeSystemLaw") (hT : Tb D cs s) (hA : ∀ q, s.heap.size ≤ q → A q) (hM : MI cs sK mo G T Y M) (hw : pw D A s.heap H locs [w, C, M]) (hR : 1 ≤ R.frames ∧ 20 ≤ R.locals) (hl : ls.size = nL) (hrm : (rest.map fun v => v.category).sum ≤ 8) (hdg : decode cc pc = .ok (.invokevirtual 123, 3)) (hf : cells + 0 ≤ R.cells ∧ slots + 0 ≤ R.slots)
  (kk : ∀ (r : Int32) (M9 : va_W) (G9 T9 : Int) (Y9 : KS) (H1 : Heap) (locs1 : List Loc), MI cs sK mo G9 T9 Y9 M9 → Ty_same G Y 0 G9 Y9 → pw D A s.heap H1 locs1 [w, C, M9] → W p l e R s m args below meth c H1 locs1 (cells + 0) (slots + 0) Q (F0 m (pc + 3) ls (.int r :: rest))) :
  W p l e R s m args below meth c H locs cells slots Q (F0 m pc ls ([.ref mo] ++ rest)) := by
  obtain ⟨v, rfl, ok, hG, hT9, hY⟩ := hM
  subst hY
  have h2a := ok.f2.1; have h2b := ok.f2.2; have h10a := ok.f10.1; have h10b := ok.f10.2
  have hw1 : pw D A s.heap H locs ([w, C] ++ [wd_Mo cs mo v.mr (fun _ => none) v.mf v.md (gMo v.PG v.hq), fm 13 (fPr cs v.hq v.qr v.QO v.QF v.QA), fm 8 (fPg cs v.PG)]) := pw_om hw
  refine px_calli (pr := [w, C]) (pcs := [wd_Mo cs mo v.mr (fun _ => none) v.mf v.md (gMo v.PG v.hq), fm 13 (fPr cs v.hq v.qr v.QO v.QF v.QA), fm 8 (fPg cs v.PG)]) (px_runV (As := []) (rest := rest) S (c_mo_pages l D cs mo v.mr v.md v.mf v.hq v.qr v.QO v.QF v.QA v.PG ok.pn ok.pg _) hT (pr := [w, C]) (pcs := [wd_Mo cs mo v.mr (fun _ => none) v.mf v.md (gMo v.PG v.hq), fm 13 (fPr cs v.hq v.qr v.QO v.QF v.QA), fm 8 (fPg cs v.PG)]) hw1 px_X.tt (px_recv hT hw1 2 0 rfl rfl rfl) m14_216 m14_213 m14_214 m14_215 m1_20 q_Mo_pages hR hl rfl hrm hdg hf) hw1 hA (fun r p1 H1 locs1 hp hw => ?_)
  obtain ⟨mf9, e0, e1, e2, e3, e4⟩ := hp
  subst e0
  have hty : Ty_same G (MV.ks v) 0 (mf9 2).toInt (MV.ks (⟨v.mr, mf9, v.md, v.hq, v.qr, v.QO, v.QF, v.QA, v.PG⟩ : MV)) := ⟨by omega, ⟨(show (mf9 10).toInt = (v.mf 10).toInt from by omega), rfl, fun _ => rfl⟩⟩
  exact kk r _ (mf9 2).toInt (mf9 0).toInt _ H1 locs1 ⟨(⟨v.mr, mf9, v.md, v.hq, v.qr, v.QO, v.QF, v.QA, v.PG⟩ : MV), rfl, ⟨ok.pn, ok.pg, ok.gk, (show 0 ≤ (mf9 2).toInt ∧ (mf9 2).toInt ≤ 2048 from by omega), (show 0 ≤ (mf9 10).toInt ∧ (mf9 10).toInt ≤ 6000 from by omega)⟩, rfl, rfl, rfl⟩ hty (pw_sm (pcs := MV.ps (⟨v.mr, mf9, v.md, v.hq, v.qr, v.QO, v.QF, v.QA, v.PG⟩ : MV) cs mo) hw)
set_option maxHeartbeats 4000000 in
theorem t_wrong (S : px_S p m c cc nL s args "HomeSystemLaw") (hT : Tb D cs s) (hA : ∀ q, s.heap.size ≤ q → A q) (hM : MI cs sK mo G T Y M) (hw : pw D A s.heap H locs [w, C, M]) (hR : 1 ≤ R.frames ∧ 20 ≤ R.locals) (hl : ls.size = nL) (hrm : (rest.map fun v => v.category).sum ≤ 8) (hdg : decode cc pc = .ok (.invokevirtual 127, 3)) (hf : cells + 0 ≤ R.cells ∧ slots + 0 ≤ R.slots)
  (kk : ∀ (r : Int32) (M9 : va_W) (G9 T9 : Int) (Y9 : KS) (H1 : Heap) (locs1 : List Loc), MI cs sK mo G9 T9 Y9 M9 → Ty_same G Y 0 G9 Y9 → pw D A s.heap H1 locs1 [w, C, M9] → W p l e R s m args below meth c H1 locs1 (cells + 0) (slots + 0) Q (F0 m (pc + 3) ls (.int r :: rest))) :
  W p l e R s m args below meth c H locs cells slots Q (F0 m pc ls ([.ref mo] ++ rest)) := by
  obtain ⟨v, rfl, ok, hG, hT9, hY⟩ := hM
  subst hY
  have h2a := ok.f2.1; have h2b := ok.f2.2; have h10a := ok.f10.1; have h10b := ok.f10.2
  have hw1 : pw D A s.heap H locs ([w, C] ++ [wd_Mo cs mo v.mr (fun _ => none) v.mf v.md (gMo v.PG v.hq), fm 13 (fPr cs v.hq v.qr v.QO v.QF v.QA), fm 8 (fPg cs v.PG)]) := pw_om hw
  refine px_calli (pr := [w, C]) (pcs := [wd_Mo cs mo v.mr (fun _ => none) v.mf v.md (gMo v.PG v.hq), fm 13 (fPr cs v.hq v.qr v.QO v.QF v.QA), fm 8 (fPg cs v.PG)]) (px_runV (As := []) (rest := rest) S (c_mo_wrong l D cs mo v.mr v.md v.mf v.hq v.qr v.QO v.QF v.QA v.PG ok.pn ok.pg _) hT (pr := [w, C]) (pcs := [wd_Mo cs mo v.mr (fun _ => none) v.mf v.md (gMo v.PG v.hq), fm 13 (fPr cs v.hq v.qr v.QO v.QF v.QA), fm 8 (fPg cs v.PG)]) hw1 px_X.tt (px_recv hT hw1 2 0 rfl rfl rfl) m14_220 m14_217 m14_218 m14_219 m1_20 q_Mo_wrong hR hl rfl hrm hdg hf) hw1 hA (fun r p1 H1 locs1 hp hw => ?_)
  obtain ⟨mf9, e0, e1, e2, e3, e4⟩ := hp
  subst e0
  have hty : Ty_same G (MV.ks v) 0 (mf9 2).toInt (MV.ks (⟨v.mr, mf9, v.md, v.hq, v.qr, v.QO, v.QF, v.QA, v.PG⟩ : MV)) := ⟨by omega, ⟨(show (mf9 10).toInt = (v.mf 10).toInt from by omega), rfl, fun _ => rfl⟩⟩
  exact kk r _ (mf9 2).toInt (mf9 0).toInt _ H1 locs1 ⟨(⟨v.mr, mf9, v.md, v.hq, v.qr, v.QO, v.QF, v.QA, v.PG⟩ : MV), rfl, ⟨ok.pn, ok.pg, ok.gk, (show 0 ≤ (mf9 2).toInt ∧ (mf9 2).toInt ≤ 2048 from by omega), (show 0 ≤ (mf9 10).toInt ∧ (mf9 10).toInt ≤ 6000 from by omega)⟩, rfl, rfl, rfl⟩ hty (pw_sm (pcs := MV.ps (⟨v.mr, mf9, v.md, v.hq, v.qr, v.QO, v.QF, v.QA, v.PG⟩ : MV) cs mo) hw)
set_option maxHeartbeats 4000000 in
theorem t_outcome (S : px_S p m c cc nL s args "HomeSystemLaw") (hT : Tb D cs s) (hA : ∀ q, s.heap.size ≤ q → A q) (hM : MI cs sK mo G T Y M) (hw : pw D A s.heap H locs [w, C, M]) (p0 : Int32) (hR : 2 ≤ R.frames ∧ 61 ≤ R.locals) (hl : ls.size = nL) (hrm : (rest.map fun v => v.category).sum ≤ 8) (hdg : decode cc pc = .ok (.invokevirtual 98, 3)) (hf : cells + 0 ≤ R.cells ∧ slots + 0 ≤ R.slots)
  (kk : ∀ (r : Int32) (M9 : va_W) (G9 T9 : Int) (Y9 : KS) (H1 : Heap) (locs1 : List Loc), MI cs sK mo G9 T9 Y9 M9 → Ty_same G Y p0 G9 Y9 → pw D A s.heap H1 locs1 [w, C, M9] → W p l e R s m args below meth c H1 locs1 (cells + 0) (slots + 0) Q (F0 m (pc + 3) ls (.int r :: rest))) :
  W p l e R s m args below meth c H locs cells slots Q (F0 m pc ls ([.int p0, .ref mo] ++ rest)) := by
  obtain ⟨v, rfl, ok, hG, hT9, hY⟩ := hM
  subst hY
  have h2a := ok.f2.1; have h2b := ok.f2.2; have h10a := ok.f10.1; have h10b := ok.f10.2
  have hw1 : pw D A s.heap H locs ([w, C] ++ [wd_Mo cs mo v.mr (fun _ => none) v.mf v.md (gMo v.PG v.hq), fm 13 (fPr cs v.hq v.qr v.QO v.QF v.QA), fm 8 (fPg cs v.PG)]) := pw_om hw
  refine px_calli (pr := [w, C]) (pcs := [wd_Mo cs mo v.mr (fun _ => none) v.mf v.md (gMo v.PG v.hq), fm 13 (fPr cs v.hq v.qr v.QO v.QF v.QA), fm 8 (fPg cs v.PG)]) (px_runV (As := [.int p0]) (rest := rest) S (c_mo_outcome l D cs mo v.mr v.md v.mf v.hq v.qr v.QO v.QF v.QA v.PG p0 ok.pn ok.pg _) hT (pr := [w, C]) (pcs := [wd_Mo cs mo v.mr (fun _ => none) v.mf v.md (gMo v.PG v.hq), fm 13 (fPr cs v.hq v.qr v.QO v.QF v.QA), fm 8 (fPg cs v.PG)]) hw1 px_X.tt (px_recv hT hw1 2 0 rfl rfl rfl) m14_177 m14_174 m14_175 m14_176 m1_20 q_Mo_outcome hR hl rfl hrm hdg hf) hw1 hA (fun r p1 H1 locs1 hp hw => ?_)
  obtain ⟨mf9, e0, e1, e2, e3⟩ := hp
  subst e0
  have hty : Ty_same G (MV.ks v) p0 (mf9 2).toInt (MV.ks (⟨v.mr, mf9, v.md, v.hq, v.qr, v.QO, v.QF, v.QA, v.PG⟩ : MV)) := ⟨by omega, ⟨(show (mf9 10).toInt = (v.mf 10).toInt from by omega), rfl, fun _ => rfl⟩⟩
  exact kk r _ (mf9 2).toInt (mf9 0).toInt _ H1 locs1 ⟨(⟨v.mr, mf9, v.md, v.hq, v.qr, v.QO, v.QF, v.QA, v.PG⟩ : MV), rfl, ⟨ok.pn, ok.pg, ok.gk, (show 0 ≤ (mf9 2).toInt ∧ (mf9 2).toInt ≤ 2048 from by omega), (show 0 ≤ (mf9 10).toInt ∧ (mf9 10).toInt ≤ 6000 from by omega)⟩, rfl, rfl, rfl⟩ hty (pw_sm (pcs := MV.ps (⟨v.mr, mf9, v.md, v.hq, v.qr, v.QO, v.QF, v.QA, v.PG⟩ : MV) cs mo) hw)
set_option maxHeartbeats 4000000 in
theorem t_value (S : px_S p m c cc nL s args "HomeSystemLaw") (hT : Tb D cs s) (hA : ∀ q, s.heap.size ≤ q → A q) (hM : MI cs sK mo G T Y M) (hw : pw D A s.heap H locs [w, C, M]) (p0 : Int32) (hR : 2 ≤ R.frames ∧ 61 ≤ R.locals) (hl : ls.size = nL) (hrm : (rest.map fun v => v.category).sum ≤ 8) (hdg : decode cc pc = .ok (.invokevirtual 101, 3)) (hf : cells + 0 ≤ R.cells ∧ slots + 0 ≤ R.slots)
  (kk : ∀ (r : Int32) (M9 : va_W) (G9 T9 : Int) (Y9 : KS) (H1 : Heap) (locs1 : List Loc), MI cs sK mo G9 T9 Y9 M9 → Ty_same G Y p0 G9 Y9 → pw D A s.heap H1 locs1 [w, C, M9] → W p l e R s m args below meth c H1 locs1 (cells + 0) (slots + 0) Q (F0 m (pc + 3) ls (.int r :: rest))) :
  W p l e R s m args below meth c H locs cells slots Q (F0 m pc ls ([.int p0, .ref mo] ++ rest)) := by
  obtain ⟨v, rfl, ok, hG, hT9, hY⟩ := hM
  subst hY
  have h2a := ok.f2.1; have h2b := ok.f2.2; have h10a := ok.f10.1; have h10b := ok.f10.2
  have hw1 : pw D A s.heap H locs ([w, C] ++ [wd_Mo cs mo v.mr (fun _ => none) v.mf v.md (gMo v.PG v.hq), fm 13 (fPr cs v.hq v.qr v.QO v.QF v.QA), fm 8 (fPg cs v.PG)]) := pw_om hw
  refine px_calli (pr := [w, C]) (pcs := [wd_Mo cs mo v.mr (fun _ => none) v.mf v.md (gMo v.PG v.hq), fm 13 (fPr cs v.hq v.qr v.QO v.QF v.QA), fm 8 (fPg cs v.PG)]) (px_runV (As := [.int p0]) (rest := rest) S (c_mo_value l D cs mo v.mr v.md v.mf v.hq v.qr v.QO v.QF v.QA v.PG p0 ok.pn ok.pg _) hT (pr := [w, C]) (pcs := [wd_Mo cs mo v.mr (fun _ => none) v.mf v.md (gMo v.PG v.hq), fm 13 (fPr cs v.hq v.qr v.QO v.QF v.QA), fm 8 (fPg cs v.PG)]) hw1 px_X.tt (px_recv hT hw1 2 0 rfl rfl rfl) m14_188 m14_185 m14_186 m14_187 m1_20 q_Mo_value hR hl rfl hrm hdg hf) hw1 hA (fun r p1 H1 locs1 hp hw => ?_)
  obtain ⟨mf9, e0, e1, e2, e3⟩ := hp
  subst e0
  have hty : Ty_same G (MV.ks v) p0 (mf9 2).toInt (MV.ks (⟨v.mr, mf9, v.md, v.hq, v.qr, v.QO, v.QF, v.QA, v.PG⟩ : MV)) := ⟨by omega, ⟨(show (mf9 10).toInt = (v.mf 10).toInt from by omega), rfl, fun _ => rfl⟩⟩
  exact kk r _ (mf9 2).toInt (mf9 0).toInt _ H1 locs1 ⟨(⟨v.mr, mf9, v.md, v.hq, v.qr, v.QO, v.QF, v.QA, v.PG⟩ : MV), rfl, ⟨ok.pn, ok.pg, ok.gk, (show 0 ≤ (mf9 2).toInt ∧ (mf9 2).toInt ≤ 2048 from by omega), (show 0 ≤ (mf9 10).toInt ∧ (mf9 10).toInt ≤ 6000 from by omega)⟩, rfl, rfl, rfl⟩ hty (pw_sm (pcs := MV.ps (⟨v.mr, mf9, v.md, v.hq, v.qr, v.QO, v.QF, v.QA, v.PG⟩ : MV) cs mo) hw)
set_option maxHeartbeats 4000000 in
theorem t_paper (S : px_S p m c cc nL s args "HomeSystemLaw") (hT : Tb D cs s) (hA : ∀ q, s.heap.size ≤ q → A q) (hM : MI cs sK mo G T Y M) (hw : pw D A s.heap H locs [w, C, M]) (p0 : Int32) (hR : 2 ≤ R.frames ∧ 61 ≤ R.locals) (hl : ls.size = nL) (hrm : (rest.map fun v => v.category).sum ≤ 8) (hdg : decode cc pc = .ok (.invokevirtual 104, 3)) (hf : cells + 0 ≤ R.cells ∧ slots + 0 ≤ R.slots)
  (kk : ∀ (r : Int32) (M9 : va_W) (G9 T9 : Int) (Y9 : KS) (H1 : Heap) (locs1 : List Loc), MI cs sK mo G9 T9 Y9 M9 → Ty_same G Y p0 G9 Y9 → pw D A s.heap H1 locs1 [w, C, M9] → W p l e R s m args below meth c H1 locs1 (cells + 0) (slots + 0) Q (F0 m (pc + 3) ls (.int r :: rest))) :
  W p l e R s m args below meth c H locs cells slots Q (F0 m pc ls ([.int p0, .ref mo] ++ rest)) := by
  obtain ⟨v, rfl, ok, hG, hT9, hY⟩ := hM
  subst hY
  have h2a := ok.f2.1; have h2b := ok.f2.2; have h10a := ok.f10.1; have h10b := ok.f10.2
  have hw1 : pw D A s.heap H locs ([w, C] ++ [wd_Mo cs mo v.mr (fun _ => none) v.mf v.md (gMo v.PG v.hq), fm 13 (fPr cs v.hq v.qr v.QO v.QF v.QA), fm 8 (fPg cs v.PG)]) := pw_om hw
  refine px_calli (pr := [w, C]) (pcs := [wd_Mo cs mo v.mr (fun _ => none) v.mf v.md (gMo v.PG v.hq), fm 13 (fPr cs v.hq v.qr v.QO v.QF v.QA), fm 8 (fPg cs v.PG)]) (px_runV (As := [.int p0]) (rest := rest) S (c_mo_paper l D cs mo v.mr v.md v.mf v.hq v.qr v.QO v.QF v.QA v.PG p0 ok.pn ok.pg _) hT (pr := [w, C]) (pcs := [wd_Mo cs mo v.mr (fun _ => none) v.mf v.md (gMo v.PG v.hq), fm 13 (fPr cs v.hq v.qr v.QO v.QF v.QA), fm 8 (fPg cs v.PG)]) hw1 px_X.tt (px_recv hT hw1 2 0 rfl rfl rfl) m14_192 m14_189 m14_190 m14_191 m1_20 q_Mo_paper hR hl rfl hrm hdg hf) hw1 hA (fun r p1 H1 locs1 hp hw => ?_)
  obtain ⟨mf9, e0, e1, e2, e3⟩ := hp
  subst e0
  have hty : Ty_same G (MV.ks v) p0 (mf9 2).toInt (MV.ks (⟨v.mr, mf9, v.md, v.hq, v.qr, v.QO, v.QF, v.QA, v.PG⟩ : MV)) := ⟨by omega, ⟨(show (mf9 10).toInt = (v.mf 10).toInt from by omega), rfl, fun _ => rfl⟩⟩
  exact kk r _ (mf9 2).toInt (mf9 0).toInt _ H1 locs1 ⟨(⟨v.mr, mf9, v.md, v.hq, v.qr, v.QO, v.QF, v.QA, v.PG⟩ : MV), rfl, ⟨ok.pn, ok.pg, ok.gk, (show 0 ≤ (mf9 2).toInt ∧ (mf9 2).toInt ≤ 2048 from by omega), (show 0 ≤ (mf9 10).toInt ∧ (mf9 10).toInt ≤ 6000 from by omega)⟩, rfl, rfl, rfl⟩ hty (pw_sm (pcs := MV.ps (⟨v.mr, mf9, v.md, v.hq, v.qr, v.QO, v.QF, v.QA, v.PG⟩ : MV) cs mo) hw)
set_option maxHeartbeats 4000000 in
theorem t_paperAt (S : px_S p m c cc nL s args "HomeSystemLaw") (hT : Tb D cs s) (hA : ∀ q, s.heap.size ≤ q → A q) (hM : MI cs sK mo G T Y M) (hw : pw D A s.heap H locs [w, C, M]) (p0 p1 : Int32) (hR : 2 ≤ R.frames ∧ 62 ≤ R.locals) (hl : ls.size = nL) (hrm : (rest.map fun v => v.category).sum ≤ 8) (hdg : decode cc pc = .ok (.invokevirtual 108, 3)) (hf : cells + 0 ≤ R.cells ∧ slots + 0 ≤ R.slots)
  (kk : ∀ (r : Int32) (M9 : va_W) (G9 T9 : Int) (Y9 : KS) (H1 : Heap) (locs1 : List Loc), MI cs sK mo G9 T9 Y9 M9 → Ty_same G Y p0 G9 Y9 → pw D A s.heap H1 locs1 [w, C, M9] → W p l e R s m args below meth c H1 locs1 (cells + 0) (slots + 0) Q (F0 m (pc + 3) ls (.int r :: rest))) :
  W p l e R s m args below meth c H locs cells slots Q (F0 m pc ls ([.int p1, .int p0, .ref mo] ++ rest)) := by
  obtain ⟨v, rfl, ok, hG, hT9, hY⟩ := hM
  subst hY
  have h2a := ok.f2.1; have h2b := ok.f2.2; have h10a := ok.f10.1; have h10b := ok.f10.2
  have hw1 : pw D A s.heap H locs ([w, C] ++ [wd_Mo cs mo v.mr (fun _ => none) v.mf v.md (gMo v.PG v.hq), fm 13 (fPr cs v.hq v.qr v.QO v.QF v.QA), fm 8 (fPg cs v.PG)]) := pw_om hw
  refine px_calli (pr := [w, C]) (pcs := [wd_Mo cs mo v.mr (fun _ => none) v.mf v.md (gMo v.PG v.hq), fm 13 (fPr cs v.hq v.qr v.QO v.QF v.QA), fm 8 (fPg cs v.PG)]) (px_runV (As := [.int p0, .int p1]) (rest := rest) S (c_mo_paperAt l D cs mo v.mr v.md v.mf v.hq v.qr v.QO v.QF v.QA v.PG p0 p1 ok.pn ok.pg _) hT (pr := [w, C]) (pcs := [wd_Mo cs mo v.mr (fun _ => none) v.mf v.md (gMo v.PG v.hq), fm 13 (fPr cs v.hq v.qr v.QO v.QF v.QA), fm 8 (fPg cs v.PG)]) hw1 px_X.tt (px_recv hT hw1 2 0 rfl rfl rfl) m14_196 m14_193 m14_194 m14_195 m1_20 q_Mo_paperAt hR hl rfl hrm hdg hf) hw1 hA (fun r p1 H1 locs1 hp hw => ?_)
  obtain ⟨mf9, e0, e1, e2, e3⟩ := hp
  subst e0
  have hty : Ty_same G (MV.ks v) p0 (mf9 2).toInt (MV.ks (⟨v.mr, mf9, v.md, v.hq, v.qr, v.QO, v.QF, v.QA, v.PG⟩ : MV)) := ⟨by omega, ⟨(show (mf9 10).toInt = (v.mf 10).toInt from by omega), rfl, fun _ => rfl⟩⟩
  exact kk r _ (mf9 2).toInt (mf9 0).toInt _ H1 locs1 ⟨(⟨v.mr, mf9, v.md, v.hq, v.qr, v.QO, v.QF, v.QA, v.PG⟩ : MV), rfl, ⟨ok.pn, ok.pg, ok.gk, (show 0 ≤ (mf9 2).toInt ∧ (mf9 2).toInt ≤ 2048 from by omega), (show 0 ≤ (mf9 10).toInt ∧ (mf9 10).toInt ≤ 6000 from by omega)⟩, rfl, rfl, rfl⟩ hty (pw_sm (pcs := MV.ps (⟨v.mr, mf9, v.md, v.hq, v.qr, v.QO, v.QF, v.QA, v.PG⟩ : MV) cs mo) hw)
set_option maxHeartbeats 4000000 in
theorem t_unread (S : px_S p m c cc nL s args "HomeSystemLaw") (hT : Tb D cs s) (hA : ∀ q, s.heap.size ≤ q → A q) (hM : MI cs sK mo G T Y M) (hw : pw D A s.heap H locs [w, C, M]) (p0 p1 : Int32) (hR : 2 ≤ R.frames ∧ 62 ≤ R.locals) (hl : ls.size = nL) (hrm : (rest.map fun v => v.category).sum ≤ 8) (hdg : decode cc pc = .ok (.invokevirtual 112, 3)) (hf : cells + 0 ≤ R.cells ∧ slots + 0 ≤ R.slots)
  (kk : ∀ (r : Int32) (M9 : va_W) (G9 T9 : Int) (Y9 : KS) (H1 : Heap) (locs1 : List Loc), MI cs sK mo G9 T9 Y9 M9 → Ty_same G Y p0 G9 Y9 → pw D A s.heap H1 locs1 [w, C, M9] → W p l e R s m args below meth c H1 locs1 (cells + 0) (slots + 0) Q (F0 m (pc + 3) ls (.int r :: rest))) :
  W p l e R s m args below meth c H locs cells slots Q (F0 m pc ls ([.int p1, .int p0, .ref mo] ++ rest)) := by
  obtain ⟨v, rfl, ok, hG, hT9, hY⟩ := hM
  subst hY
  have h2a := ok.f2.1; have h2b := ok.f2.2; have h10a := ok.f10.1; have h10b := ok.f10.2
  have hw1 : pw D A s.heap H locs ([w, C] ++ [wd_Mo cs mo v.mr (fun _ => none) v.mf v.md (gMo v.PG v.hq), fm 13 (fPr cs v.hq v.qr v.QO v.QF v.QA), fm 8 (fPg cs v.PG)]) := pw_om hw
  refine px_calli (pr := [w, C]) (pcs := [wd_Mo cs mo v.mr (fun _ => none) v.mf v.md (gMo v.PG v.hq), fm 13 (fPr cs v.hq v.qr v.QO v.QF v.QA), fm 8 (fPg cs v.PG)]) (px_runV (As := [.int p0, .int p1]) (rest := rest) S (c_mo_unread l D cs mo v.mr v.md v.mf v.hq v.qr v.QO v.QF v.QA v.PG p0 p1 ok.pn ok.pg _) hT (pr := [w, C]) (pcs := [wd_Mo cs mo v.mr (fun _ => none) v.mf v.md (gMo v.PG v.hq), fm 13 (fPr cs v.hq v.qr v.QO v.QF v.QA), fm 8 (fPg cs v.PG)]) hw1 px_X.tt (px_recv hT hw1 2 0 rfl rfl rfl) m14_200 m14_197 m14_198 m14_199 m1_20 q_Mo_unread hR hl rfl hrm hdg hf) hw1 hA (fun r p1 H1 locs1 hp hw => ?_)
  obtain ⟨mf9, e0, e1, e2, e3⟩ := hp
  subst e0
  have hty : Ty_same G (MV.ks v) p0 (mf9 2).toInt (MV.ks (⟨v.mr, mf9, v.md, v.hq, v.qr, v.QO, v.QF, v.QA, v.PG⟩ : MV)) := ⟨by omega, ⟨(show (mf9 10).toInt = (v.mf 10).toInt from by omega), rfl, fun _ => rfl⟩⟩
  exact kk r _ (mf9 2).toInt (mf9 0).toInt _ H1 locs1 ⟨(⟨v.mr, mf9, v.md, v.hq, v.qr, v.QO, v.QF, v.QA, v.PG⟩ : MV), rfl, ⟨ok.pn, ok.pg, ok.gk, (show 0 ≤ (mf9 2).toInt ∧ (mf9 2).toInt ≤ 2048 from by omega), (show 0 ≤ (mf9 10).toInt ∧ (mf9 10).toInt ≤ 6000 from by omega)⟩, rfl, rfl, rfl⟩ hty (pw_sm (pcs := MV.ps (⟨v.mr, mf9, v.md, v.hq, v.qr, v.QO, v.QF, v.QA, v.PG⟩ : MV) cs mo) hw)
set_option maxHeartbeats 4000000 in
theorem t_disk (S : px_S p m c cc nL s args "HomeSystemLaw") (hT : Tb D cs s) (hA : ∀ q, s.heap.size ≤ q → A q) (hM : MI cs sK mo G T Y M) (hw : pw D A s.heap H locs [w, C, M]) (p0 : Int32) (hR : 2 ≤ R.frames ∧ 61 ≤ R.locals) (hl : ls.size = nL) (hrm : (rest.map fun v => v.category).sum ≤ 8) (hdg : decode cc pc = .ok (.invokevirtual 115, 3)) (hf : cells + 0 ≤ R.cells ∧ slots + 0 ≤ R.slots)
  (kk : ∀ (r : Int32) (M9 : va_W) (G9 T9 : Int) (Y9 : KS) (H1 : Heap) (locs1 : List Loc), MI cs sK mo G9 T9 Y9 M9 → Ty_same G Y p0 G9 Y9 → pw D A s.heap H1 locs1 [w, C, M9] → W p l e R s m args below meth c H1 locs1 (cells + 0) (slots + 0) Q (F0 m (pc + 3) ls (.int r :: rest))) :
  W p l e R s m args below meth c H locs cells slots Q (F0 m pc ls ([.int p0, .ref mo] ++ rest)) := by
  obtain ⟨v, rfl, ok, hG, hT9, hY⟩ := hM
  subst hY
  have h2a := ok.f2.1; have h2b := ok.f2.2; have h10a := ok.f10.1; have h10b := ok.f10.2
  have hw1 : pw D A s.heap H locs ([w, C] ++ [wd_Mo cs mo v.mr (fun _ => none) v.mf v.md (gMo v.PG v.hq), fm 13 (fPr cs v.hq v.qr v.QO v.QF v.QA), fm 8 (fPg cs v.PG)]) := pw_om hw
  refine px_calli (pr := [w, C]) (pcs := [wd_Mo cs mo v.mr (fun _ => none) v.mf v.md (gMo v.PG v.hq), fm 13 (fPr cs v.hq v.qr v.QO v.QF v.QA), fm 8 (fPg cs v.PG)]) (px_runV (As := [.int p0]) (rest := rest) S (c_mo_disk l D cs mo v.mr v.md v.mf v.hq v.qr v.QO v.QF v.QA v.PG p0 ok.pn ok.pg _) hT (pr := [w, C]) (pcs := [wd_Mo cs mo v.mr (fun _ => none) v.mf v.md (gMo v.PG v.hq), fm 13 (fPr cs v.hq v.qr v.QO v.QF v.QA), fm 8 (fPg cs v.PG)]) hw1 px_X.tt (px_recv hT hw1 2 0 rfl rfl rfl) m14_204 m14_201 m14_202 m14_203 m1_20 q_Mo_disk hR hl rfl hrm hdg hf) hw1 hA (fun r p1 H1 locs1 hp hw => ?_)
  obtain ⟨mf9, e0, e1, e2, e3⟩ := hp
  subst e0
  have hty : Ty_same G (MV.ks v) p0 (mf9 2).toInt (MV.ks (⟨v.mr, mf9, v.md, v.hq, v.qr, v.QO, v.QF, v.QA, v.PG⟩ : MV)) := ⟨by omega, ⟨(show (mf9 10).toInt = (v.mf 10).toInt from by omega), rfl, fun _ => rfl⟩⟩
  exact kk r _ (mf9 2).toInt (mf9 0).toInt _ H1 locs1 ⟨(⟨v.mr, mf9, v.md, v.hq, v.qr, v.QO, v.QF, v.QA, v.PG⟩ : MV), rfl, ⟨ok.pn, ok.pg, ok.gk, (show 0 ≤ (mf9 2).toInt ∧ (mf9 2).toInt ≤ 2048 from by omega), (show 0 ≤ (mf9 10).toInt ∧ (mf9 10).toInt ≤ 6000 from by omega)⟩, rfl, rfl, rfl⟩ hty (pw_sm (pcs := MV.ps (⟨v.mr, mf9, v.md, v.hq, v.qr, v.QO, v.QF, v.QA, v.PG⟩ : MV) cs mo) hw)
set_option maxHeartbeats 4000000 in
theorem t_setDisk (S : px_S p m c cc nL s args "HomeSystemLaw") (hT : Tb D cs s) (hA : ∀ q, s.heap.size ≤ q → A q) (hM : MI cs sK mo G T Y M) (hw : pw D A s.heap H locs [w, C, M]) (p0 p1 : Int32) (hR : 2 ≤ R.frames ∧ 62 ≤ R.locals) (hl : ls.size = nL) (hrm : (rest.map fun v => v.category).sum ≤ 8) (hdg : decode cc pc = .ok (.invokevirtual 119, 3)) (hf : cells + 0 ≤ R.cells ∧ slots + 0 ≤ R.slots)
  (kk : ∀ (M9 : va_W) (G9 T9 : Int) (Y9 : KS) (H1 : Heap) (locs1 : List Loc), MI cs sK mo G9 T9 Y9 M9 → Ty_same G Y p0 G9 Y9 → pw D A s.heap H1 locs1 [w, C, M9] → W p l e R s m args below meth c H1 locs1 (cells + 0) (slots + 0) Q (F0 m (pc + 3) ls rest)) :
  W p l e R s m args below meth c H locs cells slots Q (F0 m pc ls ([.int p1, .int p0, .ref mo] ++ rest)) := by
  obtain ⟨v, rfl, ok, hG, hT9, hY⟩ := hM
  subst hY
  have h2a := ok.f2.1; have h2b := ok.f2.2; have h10a := ok.f10.1; have h10b := ok.f10.2
  have hw1 : pw D A s.heap H locs ([w, C] ++ [wd_Mo cs mo v.mr (fun _ => none) v.mf v.md (gMo v.PG v.hq), fm 13 (fPr cs v.hq v.qr v.QO v.QF v.QA), fm 8 (fPg cs v.PG)]) := pw_om hw
  refine px_callv (pr := [w, C]) (pcs := [wd_Mo cs mo v.mr (fun _ => none) v.mf v.md (gMo v.PG v.hq), fm 13 (fPr cs v.hq v.qr v.QO v.QF v.QA), fm 8 (fPg cs v.PG)]) (px_runV (As := [.int p0, .int p1]) (rest := rest) S (c_mo_setDisk l D cs mo v.mr v.mf v.md v.hq v.qr v.QO v.QF v.QA v.PG p0 p1 ok.pn ok.pg _) hT (pr := [w, C]) (pcs := [wd_Mo cs mo v.mr (fun _ => none) v.mf v.md (gMo v.PG v.hq), fm 13 (fPr cs v.hq v.qr v.QO v.QF v.QA), fm 8 (fPg cs v.PG)]) hw1 px_X.tt (px_recv hT hw1 2 0 rfl rfl rfl) m14_208 m14_205 m14_206 m14_207 m1_20 q_Mo_setDisk hR hl rfl hrm hdg hf) hw1 hA (fun p1 H1 locs1 hp hw => ?_)
  obtain ⟨mf9, md9, e0, e1, e2, e3, e4, e5⟩ := hp
  subst e0
  have hty : Ty_same G (MV.ks v) p0 (mf9 2).toInt (MV.ks (⟨v.mr, mf9, md9, v.hq, v.qr, v.QO, v.QF, v.QA, v.PG⟩ : MV)) := ⟨by omega, ⟨(show (mf9 10).toInt = (v.mf 10).toInt from by omega), e4, fun _ => rfl⟩⟩
  exact kk _ (mf9 2).toInt (mf9 0).toInt _ H1 locs1 ⟨(⟨v.mr, mf9, md9, v.hq, v.qr, v.QO, v.QF, v.QA, v.PG⟩ : MV), rfl, ⟨ok.pn, ok.pg, ok.gk, (show 0 ≤ (mf9 2).toInt ∧ (mf9 2).toInt ≤ 2048 from by omega), (show 0 ≤ (mf9 10).toInt ∧ (mf9 10).toInt ≤ 6000 from by omega)⟩, rfl, rfl, rfl⟩ hty (pw_sm (pcs := MV.ps (⟨v.mr, mf9, md9, v.hq, v.qr, v.QO, v.QF, v.QA, v.PG⟩ : MV) cs mo) hw)
set_option maxHeartbeats 4000000 in
theorem t_raw (S : px_S p m c cc nL s args "HomeSystemLaw") (hT : Tb D cs s) (hA : ∀ q, s.heap.size ≤ q → A q) (hM : MI cs sK mo G T Y M) (hw : pw D A s.heap H locs [w, C, M]) (p0 : Int32) (hR : 2 ≤ R.frames ∧ 64 ≤ R.locals) (hl : ls.size = nL) (hrm : (rest.map fun v => v.category).sum ≤ 8) (hdg : decode cc pc = .ok (.invokevirtual 88, 3)) (hf : cells + 0 ≤ R.cells ∧ slots + 0 ≤ R.slots)
  (kk : ∀ (r : Int32) (M9 : va_W) (G9 T9 : Int) (Y9 : KS) (H1 : Heap) (locs1 : List Loc), MI cs sK mo G9 T9 Y9 M9 → Ty_raw G Y p0 G9 Y9 → pw D A s.heap H1 locs1 [w, C, M9] → W p l e R s m args below meth c H1 locs1 (cells + 0) (slots + 0) Q (F0 m (pc + 3) ls (.int r :: rest))) :
  W p l e R s m args below meth c H locs cells slots Q (F0 m pc ls ([.int p0, .ref mo] ++ rest)) := by
  obtain ⟨v, rfl, ok, hG, hT9, hY⟩ := hM
  subst hY
  have h2a := ok.f2.1; have h2b := ok.f2.2; have h10a := ok.f10.1; have h10b := ok.f10.2
  have hw1 : pw D A s.heap H locs ([w, C] ++ [wd_Mo cs mo v.mr (fun _ => none) v.mf v.md (gMo v.PG v.hq), fm 13 (fPr cs v.hq v.qr v.QO v.QF v.QA), fm 8 (fPg cs v.PG)]) := pw_om hw
  refine px_calli (pr := [w, C]) (pcs := [wd_Mo cs mo v.mr (fun _ => none) v.mf v.md (gMo v.PG v.hq), fm 13 (fPr cs v.hq v.qr v.QO v.QF v.QA), fm 8 (fPg cs v.PG)]) (px_runV (As := [.int p0]) (rest := rest) S (c_mo_raw l D cs mo v.mr v.md v.mf v.hq v.qr v.QO v.QF v.QA v.PG p0 (show 0 ≤ (v.mf 2).toInt from by omega) (show (v.mf 2).toInt ≤ 2048 from by omega) ok.pn ok.pg _) hT (pr := [w, C]) (pcs := [wd_Mo cs mo v.mr (fun _ => none) v.mf v.md (gMo v.PG v.hq), fm 13 (fPr cs v.hq v.qr v.QO v.QF v.QA), fm 8 (fPg cs v.PG)]) hw1 px_X.tt (px_recv hT hw1 2 0 rfl rfl rfl) m13_142 m13_139 m13_140 m13_141 m1_20 q_Mo_raw hR hl rfl hrm hdg hf) hw1 hA (fun r p1 H1 locs1 hp hw => ?_)
  obtain ⟨mf9, PG9, e0, e1, e2, e3, e4, e5, e6, e7⟩ := hp
  subst e0
  have hty : Ty_raw G (MV.ks v) p0 (mf9 2).toInt (MV.ks (⟨v.mr, mf9, v.md, v.hq, v.qr, v.QO, v.QF, v.QA, PG9⟩ : MV)) := by
    rcases e7 with ⟨d1, d2, d3, d4, d5, d6⟩ | ⟨d1, d2, d3⟩
    · refine Or.inl ⟨d2, d3, d4, (show (mf9 10).toInt = (v.mf 10).toInt from by omega), (fun j hj => congrArg (fun x : Int32 => so01 x.toInt) (e6 j (Or.inl hj))), ?_⟩
      rcases d6 with ⟨g1, g2⟩ | ⟨g1, g2⟩
      · exact Or.inl ⟨by omega, so_1 g2⟩
      · exact Or.inr ⟨by omega, so_0 (fun q9 => absurd (g2.symm.trans q9) (by decide))⟩
    · exact Or.inr ⟨d2, by omega, (show (mf9 10).toInt = (v.mf 10).toInt from by omega), rfl, fun j => congrArg (fun x : Int32 => so01 x.toInt) (e6 j (Or.inr d2))⟩
  exact kk r _ (mf9 2).toInt (mf9 0).toInt _ H1 locs1 ⟨(⟨v.mr, mf9, v.md, v.hq, v.qr, v.QO, v.QF, v.QA, PG9⟩ : MV), rfl, ⟨ok.pn, e1, (gk_S ok.gk e2), (show 0 ≤ (mf9 2).toInt ∧ (mf9 2).toInt ≤ 2048 from by omega), (show 0 ≤ (mf9 10).toInt ∧ (mf9 10).toInt ≤ 6000 from by omega)⟩, rfl, rfl, rfl⟩ hty (pw_sm (pcs := MV.ps (⟨v.mr, mf9, v.md, v.hq, v.qr, v.QO, v.QF, v.QA, PG9⟩ : MV) cs mo) hw)
set_option maxHeartbeats 4000000 in
theorem t_run (S : px_S p m c cc nL s args "HomeSystemLaw") (hT : Tb D cs s) (hA : ∀ q, s.heap.size ≤ q → A q) (hK : oK sK A s s.heap) (hLW : oLW A s s.heap) (hM : MI cs sK mo G T Y M) (hw : pw D A s.heap H locs [w, C, M]) (p0 p1 p2 p3 : Int32) (hR : 15 ≤ R.frames ∧ 627 ≤ R.locals) (hl : ls.size = nL) (hrm : (rest.map fun v => v.category).sum ≤ 8) (hdg : decode cc pc = .ok (.invokevirtual 95, 3)) (hf : cells + 0 ≤ R.cells ∧ slots + 0 ≤ R.slots)
  (kk : ∀ (r : Int32) (M9 : va_W) (G9 T9 : Int) (Y9 : KS) (H1 : Heap) (locs1 : List Loc), MI cs sK mo G9 T9 Y9 M9 → Ty_run G Y p0 p2 p3 G9 Y9 → pw D A s.heap H1 locs1 [w, C, M9] → W p l e R s m args below meth c H1 locs1 (cells + 0) (slots + 0) Q (F0 m (pc + 3) ls (.int r :: rest))) :
  W p l e R s m args below meth c H locs cells slots Q (F0 m pc ls ([.int p3, .int p2, .int p1, .int p0, .ref mo] ++ rest)) := by
  obtain ⟨v, rfl, ok, hG, hT9, hY⟩ := hM
  subst hY
  have h2a := ok.f2.1; have h2b := ok.f2.2; have h10a := ok.f10.1; have h10b := ok.f10.2
  have hw1 : pw D A s.heap H locs ([w, C] ++ [wd_Mo cs mo v.mr (fun _ => none) v.mf v.md (gMo v.PG v.hq), fm 13 (fPr cs v.hq v.qr v.QO v.QF v.QA), fm 8 (fPg cs v.PG)]) := pw_om hw
  refine px_calli (pr := [w, C]) (pcs := [wd_Mo cs mo v.mr (fun _ => none) v.mf v.md (gMo v.PG v.hq), fm 13 (fPr cs v.hq v.qr v.QO v.QF v.QA), fm 8 (fPg cs v.PG)]) (px_runV (As := [.int p0, .int p1, .int p2, .int p3]) (rest := rest) S (c_mo_run l D cs mo v.mr v.mf v.md v.hq v.qr v.QO v.QF v.QA v.PG p0 p1 p2 p3 (show 0 ≤ (v.mf 10).toInt from by omega) (show (v.mf 10).toInt ≤ 6000 from by omega) ok.pn ok.pg _) hT (pr := [w, C]) (pcs := [wd_Mo cs mo v.mr (fun _ => none) v.mf v.md (gMo v.PG v.hq), fm 13 (fPr cs v.hq v.qr v.QO v.QF v.QA), fm 8 (fPg cs v.PG)]) hw1 (oX_call (P := (fun A U H => (∀ j : Nat, j < 8 → oP A (v.PG j).g U H) ∧ (oLW A U H))) (pr := [w, C]) (oG_and oG_G oG_LW) hw1 hA ⟨(fun j hj => oK.P hK (ok.gk j hj)), hLW⟩) (px_recv hT hw1 2 0 rfl rfl rfl) m13_151 m13_148 m13_149 m13_150 m1_20 q_Mo_run hR hl rfl hrm hdg hf) hw1 hA (fun r p1 H1 locs1 hp hw => ?_)
  obtain ⟨mf9, md9, QO9, QF9, QA9, e0, e1, e2, e3, e4, e5, e6, e7⟩ := hp
  subst e0
  have hty : Ty_run G (MV.ks v) p0 p2 p3 (mf9 2).toInt (MV.ks (⟨v.mr, mf9, md9, v.hq, v.qr, QO9, QF9, QA9, v.PG⟩ : MV)) := by
    refine ⟨?_, e6, fun _ => rfl, by omega⟩
    rcases e7 with ⟨d1, d2⟩ | ⟨d1, d2, d3, d4, d5, d6, d7, d8⟩
    · exact Or.inr ⟨d1, d2⟩
    · refine Or.inl ⟨⟨d1, d2, d3, d4, d5, d6, d7⟩, ?_⟩
      rcases d8 with ⟨g1, g2⟩ | ⟨g1, g2⟩
      · exact Or.inl ⟨so_1 g1, g2⟩
      · exact Or.inr ⟨so_0 (by omega), g2⟩
  exact kk r _ (mf9 2).toInt (mf9 0).toInt _ H1 locs1 ⟨(⟨v.mr, mf9, md9, v.hq, v.qr, QO9, QF9, QA9, v.PG⟩ : MV), rfl, ⟨e1, ok.pg, ok.gk, (show 0 ≤ (mf9 2).toInt ∧ (mf9 2).toInt ≤ 2048 from by omega), (show 0 ≤ (mf9 10).toInt ∧ (mf9 10).toInt ≤ 6000 from by omega)⟩, rfl, rfl, rfl⟩ hty (pw_sm (pcs := MV.ps (⟨v.mr, mf9, md9, v.hq, v.qr, QO9, QF9, QA9, v.PG⟩ : MV) cs mo) hw)
set_option maxHeartbeats 4000000 in
theorem t_text (S : px_S p m c cc nL s args "HomeSystemLaw") (hT : Tb D cs s) (hA : ∀ q, s.heap.size ≤ q → A q) {sk st : Nat} {sb : Nat → Int32} (hlf : l.flags = pinnedFlags ++ [noTraceFlag]) (hK : oK sK A s s.heap) (hN : oN A s s.heap) (hMn : vk_R "HomeSystemModel$Program" 688 "main" sk s ∧ oS A sk st 4 sb s s.heap) (hM : MI cs sK mo G T Y M) (hw : pw D A s.heap H locs [w, C, M]) (p0 : Int32) (hR : 1302 ≤ R.frames ∧ 60122 ≤ R.locals) (hl : ls.size = nL) (hrm : (rest.map fun v => v.category).sum ≤ 8) (hdg : decode cc pc = .ok (.invokevirtual 80, 3)) (hf : cells + 1 ≤ R.cells ∧ slots + 6 ≤ R.slots)
  (kk : ∀ (r : Int32) (M9 : va_W) (G9 T9 : Int) (Y9 : KS) (H1 : Heap) (locs1 : List Loc), MI cs sK mo G9 T9 Y9 M9 → Ty_text G Y sb p0 G9 Y9 → pw D A s.heap H1 locs1 [w, C, M9] → W p l e R s m args below meth c H1 locs1 (cells + 1) (slots + 6) Q (F0 m (pc + 3) ls (.int r :: rest))) :
  W p l e R s m args below meth c H locs cells slots Q (F0 m pc ls ([.int p0, .ref mo] ++ rest)) := by
  obtain ⟨v, rfl, ok, hG, hT9, hY⟩ := hM
  subst hY
  have h2a := ok.f2.1; have h2b := ok.f2.2; have h10a := ok.f10.1; have h10b := ok.f10.2
  have hw1 : pw D A s.heap H locs ([w, C] ++ [wd_Mo cs mo v.mr (fun _ => none) v.mf v.md (gMo v.PG v.hq), fm 13 (fPr cs v.hq v.qr v.QO v.QF v.QA), fm 8 (fPg cs v.PG)]) := pw_om hw
  refine px_calli (pr := [w, C]) (pcs := [wd_Mo cs mo v.mr (fun _ => none) v.mf v.md (gMo v.PG v.hq), fm 13 (fPr cs v.hq v.qr v.QO v.QF v.QA), fm 8 (fPg cs v.PG)]) (px_runV (As := [.int p0]) (rest := rest) S (c_mo_text l D cs sk st sb mo v.mr v.md v.mf v.hq v.qr v.QO v.QF v.QA v.PG p0 (show 0 ≤ (v.mf 2).toInt from by omega) (show (v.mf 2).toInt ≤ 2048 from by omega) ok.pn ok.pg hlf _) hT (pr := [w, C]) (pcs := [wd_Mo cs mo v.mr (fun _ => none) v.mf v.md (gMo v.PG v.hq), fm 13 (fPr cs v.hq v.qr v.QO v.QF v.QA), fm 8 (fPg cs v.PG)]) hw1 (oX_call (P := (fun A U H => (oN A U H) ∧ (∀ j : Nat, j < 8 → oP A (v.PG j).g U H) ∧ ((vk_R "HomeSystemModel$Program" 688 "main" sk U ∧ oS A sk st 4 sb U H)))) (pr := [w, C]) (oG_and oG_N (oG_and oG_G (oG_and oG_L oG_S))) hw1 hA ⟨hN, (fun j hj => oK.P hK (ok.gk j hj)), hMn⟩) (px_recv hT hw1 2 0 rfl rfl rfl) m11_123 m11_120 m11_121 m11_122 m1_20 q_Mo_text hR hl rfl hrm hdg hf) hw1 hA (fun r p1 H1 locs1 hp hw => ?_)
  obtain ⟨mf9, PG9, e0, e1, e2, e3, e4, e5, e6, e7, e8⟩ := hp
  subst e0
  have hty : Ty_text G (MV.ks v) sb p0 (mf9 2).toInt (MV.ks (⟨v.mr, mf9, v.md, v.hq, v.qr, v.QO, v.QF, v.QA, PG9⟩ : MV)) := by
    rcases e8 with ⟨d1, d2, d3, d4, d6⟩ | ⟨d1, d2, d3⟩
    · refine Or.inl ⟨d2, d3, d4, (show (mf9 10).toInt = (v.mf 10).toInt from by omega), (fun j hj => congrArg (fun x : Int32 => so01 x.toInt) (e6 j (Or.inl hj))), v.mf 2, r, hG, e7 ⟨d2, d3⟩, ?_⟩
      rcases d6 with ⟨g1, g2⟩ | ⟨g1, g2⟩
      · exact Or.inl ⟨g1, so_0 (fun q9 => absurd (g2.symm.trans q9) (by decide))⟩
      · exact Or.inr ⟨g1, so_1 g2⟩
    · exact Or.inr ⟨d2, by omega, (show (mf9 10).toInt = (v.mf 10).toInt from by omega), rfl, fun j => congrArg (fun x : Int32 => so01 x.toInt) (e6 j (Or.inr d2))⟩
  exact kk r _ (mf9 2).toInt (mf9 0).toInt _ H1 locs1 ⟨(⟨v.mr, mf9, v.md, v.hq, v.qr, v.QO, v.QF, v.QA, PG9⟩ : MV), rfl, ⟨ok.pn, e1, (gk_S ok.gk e2), (show 0 ≤ (mf9 2).toInt ∧ (mf9 2).toInt ≤ 2048 from by omega), (show 0 ≤ (mf9 10).toInt ∧ (mf9 10).toInt ≤ 6000 from by omega)⟩, rfl, rfl, rfl⟩ hty (pw_sm (pcs := MV.ps (⟨v.mr, mf9, v.md, v.hq, v.qr, v.QO, v.QF, v.QA, PG9⟩ : MV) cs mo) hw)
set_option maxHeartbeats 4000000 in
theorem s_place {em xh LL a b sn9 : Nat} {sb : Nat → Int32} {F : Int} {X : KS} (S : px_S p m c cc nL s args "HomeSystemLaw") (hT : Tb D cs s) (hA : ∀ q, s.heap.size ≤ q → A q) (hC : CI cs em xh sn9 sb F X LL a b C) (hw : pw D A s.heap H locs [w, C, M]) (hR : 1 ≤ R.frames ∧ 20 ≤ R.locals) (hl : ls.size = nL) (hrm : (rest.map fun v => v.category).sum ≤ 8) (hdg : decode cc pc = .ok (.invokevirtual 81, 3)) (hf : cells + 0 ≤ R.cells ∧ slots + 0 ≤ R.slots)
  (kk : ∀ (r : Int32) (H1 : Heap) (locs1 : List Loc), pw D A s.heap H1 locs1 [w, C, M] → W p l e R s m args below meth c H1 locs1 (cells + 0) (slots + 0) Q (F0 m (pc + 3) ls (.int r :: rest))) :
  W p l e R s m args below meth c H locs cells slots Q (F0 m pc ls (.ref xh :: rest)) := by
  obtain ⟨v, rfl, -, -, -, -, -, -, -, hX⟩ := hC
  subst hX
  have hw1 : pw D A s.heap H locs ([w, wd_Exp cs v.he v.re v.eo v.ef v.ea v.eg, wd_Cmp cs v.hc (fun k => if k = 0 then v.re 0 else if k = 1 then v.re 1 else if k = 2 then v.he else if k = 3 then v.re 2 else if k = 4 then v.hs else v.ra k) (fun k => if k = 9 then v.fo else none) v.cf v.ca (fun _ _ => none), wd_Tok cs (v.re 0) v.rt (fun k => if k = 6 then v.ob6 else none) v.tf v.ta v.tg, wd_Prg cs (v.re 2) v.rp (fun k => if k = 2 then (some v.fu) else none) v.fp (fun _ _ => 0) (fun _ _ => none), [((v.rp 1), .inl (cs 0, 16384, .inl v.cd))], [(v.fu, .inl (cs 0, 684, .inl v.ft))], wd_Nam cs (v.re 1) v.rn v.no v.nf v.na v.ng, wd_Lst cs (v.rn 0) (fun _ => 0) (fun k => if k = 0 then (some v.lq) else none) v.lf (fun _ _ => 0) (fun _ _ => none), lA cs v.own v.lq v.lc v.lg, wd_Lst cs (v.rn 1) (fun _ => 0) (fun k => if k = 0 then (some v.fq) else none) v.ff (fun _ _ => 0) (fun _ _ => none), [(v.fq, .inl (cs 12, v.fc, .inr (.inr (.inr (.inr v.fg)))))], v.P, wd_Prg cs v.hs v.rs (fun k => if k = 2 then none else none) v.fs (fun _ _ => 0) (fun _ _ => none), [((v.rs 1), .inl (cs 0, 8200, .inl v.sd))], wd_Ker cs v.hk v.kr (fun _ => none) v.kf v.ka (gKe v.pq v.pz v.tq v.rq), fm 13 (fTx cs v.tq v.TR v.TO v.TF v.TA), fm 13 (fRw cs v.rq v.RR v.RM v.RW v.RF v.RA v.RC), fm 8 (fPp cs v.pq v.PV), M] ++ [wd_Hs cs xh (fun k => if k = 1 then v.hc else if k = 2 then v.hk else v.xt k) (fun _ => none) v.xf v.xa (fun _ _ => none)]) := (pw_op hw).sub [0, 2, 3, 4, 5, 6, 7, 8, 9, 10, 11, 12, 13, 14, 15, 16, 17, 18, 19, 20, 1] rfl rfl
  refine px_calli (pr := [w, wd_Exp cs v.he v.re v.eo v.ef v.ea v.eg, wd_Cmp cs v.hc (fun k => if k = 0 then v.re 0 else if k = 1 then v.re 1 else if k = 2 then v.he else if k = 3 then v.re 2 else if k = 4 then v.hs else v.ra k) (fun k => if k = 9 then v.fo else none) v.cf v.ca (fun _ _ => none), wd_Tok cs (v.re 0) v.rt (fun k => if k = 6 then v.ob6 else none) v.tf v.ta v.tg, wd_Prg cs (v.re 2) v.rp (fun k => if k = 2 then (some v.fu) else none) v.fp (fun _ _ => 0) (fun _ _ => none), [((v.rp 1), .inl (cs 0, 16384, .inl v.cd))], [(v.fu, .inl (cs 0, 684, .inl v.ft))], wd_Nam cs (v.re 1) v.rn v.no v.nf v.na v.ng, wd_Lst cs (v.rn 0) (fun _ => 0) (fun k => if k = 0 then (some v.lq) else none) v.lf (fun _ _ => 0) (fun _ _ => none), lA cs v.own v.lq v.lc v.lg, wd_Lst cs (v.rn 1) (fun _ => 0) (fun k => if k = 0 then (some v.fq) else none) v.ff (fun _ _ => 0) (fun _ _ => none), [(v.fq, .inl (cs 12, v.fc, .inr (.inr (.inr (.inr v.fg)))))], v.P, wd_Prg cs v.hs v.rs (fun k => if k = 2 then none else none) v.fs (fun _ _ => 0) (fun _ _ => none), [((v.rs 1), .inl (cs 0, 8200, .inl v.sd))], wd_Ker cs v.hk v.kr (fun _ => none) v.kf v.ka (gKe v.pq v.pz v.tq v.rq), fm 13 (fTx cs v.tq v.TR v.TO v.TF v.TA), fm 13 (fRw cs v.rq v.RR v.RM v.RW v.RF v.RA v.RC), fm 8 (fPp cs v.pq v.PV), M]) (pcs := [wd_Hs cs xh (fun k => if k = 1 then v.hc else if k = 2 then v.hk else v.xt k) (fun _ => none) v.xf v.xa (fun _ _ => none)]) (px_runV (As := []) (rest := rest) S (c_Hs_place l D cs xh (fun k => if k = 1 then v.hc else if k = 2 then v.hk else v.xt k) (fun _ => none) (fun _ _ => none) v.xf v.xa _) hT (pr := [w, wd_Exp cs v.he v.re v.eo v.ef v.ea v.eg, wd_Cmp cs v.hc (fun k => if k = 0 then v.re 0 else if k = 1 then v.re 1 else if k = 2 then v.he else if k = 3 then v.re 2 else if k = 4 then v.hs else v.ra k) (fun k => if k = 9 then v.fo else none) v.cf v.ca (fun _ _ => none), wd_Tok cs (v.re 0) v.rt (fun k => if k = 6 then v.ob6 else none) v.tf v.ta v.tg, wd_Prg cs (v.re 2) v.rp (fun k => if k = 2 then (some v.fu) else none) v.fp (fun _ _ => 0) (fun _ _ => none), [((v.rp 1), .inl (cs 0, 16384, .inl v.cd))], [(v.fu, .inl (cs 0, 684, .inl v.ft))], wd_Nam cs (v.re 1) v.rn v.no v.nf v.na v.ng, wd_Lst cs (v.rn 0) (fun _ => 0) (fun k => if k = 0 then (some v.lq) else none) v.lf (fun _ _ => 0) (fun _ _ => none), lA cs v.own v.lq v.lc v.lg, wd_Lst cs (v.rn 1) (fun _ => 0) (fun k => if k = 0 then (some v.fq) else none) v.ff (fun _ _ => 0) (fun _ _ => none), [(v.fq, .inl (cs 12, v.fc, .inr (.inr (.inr (.inr v.fg)))))], v.P, wd_Prg cs v.hs v.rs (fun k => if k = 2 then none else none) v.fs (fun _ _ => 0) (fun _ _ => none), [((v.rs 1), .inl (cs 0, 8200, .inl v.sd))], wd_Ker cs v.hk v.kr (fun _ => none) v.kf v.ka (gKe v.pq v.pz v.tq v.rq), fm 13 (fTx cs v.tq v.TR v.TO v.TF v.TA), fm 13 (fRw cs v.rq v.RR v.RM v.RW v.RF v.RA v.RC), fm 8 (fPp cs v.pq v.PV), M]) (pcs := [wd_Hs cs xh (fun k => if k = 1 then v.hc else if k = 2 then v.hk else v.xt k) (fun _ => none) v.xf v.xa (fun _ _ => none)]) hw1 px_X.tt (px_recv hT hw1 20 0 rfl rfl rfl) m3_34 m3_31 m3_32 m3_33 m1_1 q_Hs_place hR hl rfl hrm hdg hf) hw1 hA (fun r p1 H1 locs1 hp hw => ?_)
  obtain ⟨e0, e1⟩ := hp
  subst e0
  exact kk r H1 locs1 (pw_sh (pcs := v.ps cs xh) (hw.sub [0, 20, 1, 2, 3, 4, 5, 6, 7, 8, 9, 10, 11, 12, 13, 14, 15, 16, 17, 18, 19] rfl rfl))
set_option maxHeartbeats 4000000 in
theorem s_pages {em xh LL a b sn9 : Nat} {sb : Nat → Int32} {F : Int} {X : KS} (S : px_S p m c cc nL s args "HomeSystemLaw") (hT : Tb D cs s) (hA : ∀ q, s.heap.size ≤ q → A q) (hC : CI cs em xh sn9 sb F X LL a b C) (hw : pw D A s.heap H locs [w, C, M]) (hR : 1 ≤ R.frames ∧ 20 ≤ R.locals) (hl : ls.size = nL) (hrm : (rest.map fun v => v.category).sum ≤ 8) (hdg : decode cc pc = .ok (.invokevirtual 120, 3)) (hf : cells + 0 ≤ R.cells ∧ slots + 0 ≤ R.slots)
  (kk : ∀ (r : Int32) (H1 : Heap) (locs1 : List Loc), pw D A s.heap H1 locs1 [w, C, M] → W p l e R s m args below meth c H1 locs1 (cells + 0) (slots + 0) Q (F0 m (pc + 3) ls (.int r :: rest))) :
  W p l e R s m args below meth c H locs cells slots Q (F0 m pc ls (.ref xh :: rest)) := by
  obtain ⟨v, rfl, -, -, -, -, -, -, -, hX⟩ := hC
  subst hX
  have hw1 : pw D A s.heap H locs ([w, wd_Exp cs v.he v.re v.eo v.ef v.ea v.eg, wd_Cmp cs v.hc (fun k => if k = 0 then v.re 0 else if k = 1 then v.re 1 else if k = 2 then v.he else if k = 3 then v.re 2 else if k = 4 then v.hs else v.ra k) (fun k => if k = 9 then v.fo else none) v.cf v.ca (fun _ _ => none), wd_Tok cs (v.re 0) v.rt (fun k => if k = 6 then v.ob6 else none) v.tf v.ta v.tg, wd_Prg cs (v.re 2) v.rp (fun k => if k = 2 then (some v.fu) else none) v.fp (fun _ _ => 0) (fun _ _ => none), [((v.rp 1), .inl (cs 0, 16384, .inl v.cd))], [(v.fu, .inl (cs 0, 684, .inl v.ft))], wd_Nam cs (v.re 1) v.rn v.no v.nf v.na v.ng, wd_Lst cs (v.rn 0) (fun _ => 0) (fun k => if k = 0 then (some v.lq) else none) v.lf (fun _ _ => 0) (fun _ _ => none), lA cs v.own v.lq v.lc v.lg, wd_Lst cs (v.rn 1) (fun _ => 0) (fun k => if k = 0 then (some v.fq) else none) v.ff (fun _ _ => 0) (fun _ _ => none), [(v.fq, .inl (cs 12, v.fc, .inr (.inr (.inr (.inr v.fg)))))], v.P, wd_Prg cs v.hs v.rs (fun k => if k = 2 then none else none) v.fs (fun _ _ => 0) (fun _ _ => none), [((v.rs 1), .inl (cs 0, 8200, .inl v.sd))], wd_Ker cs v.hk v.kr (fun _ => none) v.kf v.ka (gKe v.pq v.pz v.tq v.rq), fm 13 (fTx cs v.tq v.TR v.TO v.TF v.TA), fm 13 (fRw cs v.rq v.RR v.RM v.RW v.RF v.RA v.RC), fm 8 (fPp cs v.pq v.PV), M] ++ [wd_Hs cs xh (fun k => if k = 1 then v.hc else if k = 2 then v.hk else v.xt k) (fun _ => none) v.xf v.xa (fun _ _ => none)]) := (pw_op hw).sub [0, 2, 3, 4, 5, 6, 7, 8, 9, 10, 11, 12, 13, 14, 15, 16, 17, 18, 19, 20, 1] rfl rfl
  refine px_calli (pr := [w, wd_Exp cs v.he v.re v.eo v.ef v.ea v.eg, wd_Cmp cs v.hc (fun k => if k = 0 then v.re 0 else if k = 1 then v.re 1 else if k = 2 then v.he else if k = 3 then v.re 2 else if k = 4 then v.hs else v.ra k) (fun k => if k = 9 then v.fo else none) v.cf v.ca (fun _ _ => none), wd_Tok cs (v.re 0) v.rt (fun k => if k = 6 then v.ob6 else none) v.tf v.ta v.tg, wd_Prg cs (v.re 2) v.rp (fun k => if k = 2 then (some v.fu) else none) v.fp (fun _ _ => 0) (fun _ _ => none), [((v.rp 1), .inl (cs 0, 16384, .inl v.cd))], [(v.fu, .inl (cs 0, 684, .inl v.ft))], wd_Nam cs (v.re 1) v.rn v.no v.nf v.na v.ng, wd_Lst cs (v.rn 0) (fun _ => 0) (fun k => if k = 0 then (some v.lq) else none) v.lf (fun _ _ => 0) (fun _ _ => none), lA cs v.own v.lq v.lc v.lg, wd_Lst cs (v.rn 1) (fun _ => 0) (fun k => if k = 0 then (some v.fq) else none) v.ff (fun _ _ => 0) (fun _ _ => none), [(v.fq, .inl (cs 12, v.fc, .inr (.inr (.inr (.inr v.fg)))))], v.P, wd_Prg cs v.hs v.rs (fun k => if k = 2 then none else none) v.fs (fun _ _ => 0) (fun _ _ => none), [((v.rs 1), .inl (cs 0, 8200, .inl v.sd))], wd_Ker cs v.hk v.kr (fun _ => none) v.kf v.ka (gKe v.pq v.pz v.tq v.rq), fm 13 (fTx cs v.tq v.TR v.TO v.TF v.TA), fm 13 (fRw cs v.rq v.RR v.RM v.RW v.RF v.RA v.RC), fm 8 (fPp cs v.pq v.PV), M]) (pcs := [wd_Hs cs xh (fun k => if k = 1 then v.hc else if k = 2 then v.hk else v.xt k) (fun _ => none) v.xf v.xa (fun _ _ => none)]) (px_runV (As := []) (rest := rest) S (c_Hs_pages l D cs xh (fun k => if k = 1 then v.hc else if k = 2 then v.hk else v.xt k) (fun _ => none) (fun _ _ => none) v.xf v.xa _) hT (pr := [w, wd_Exp cs v.he v.re v.eo v.ef v.ea v.eg, wd_Cmp cs v.hc (fun k => if k = 0 then v.re 0 else if k = 1 then v.re 1 else if k = 2 then v.he else if k = 3 then v.re 2 else if k = 4 then v.hs else v.ra k) (fun k => if k = 9 then v.fo else none) v.cf v.ca (fun _ _ => none), wd_Tok cs (v.re 0) v.rt (fun k => if k = 6 then v.ob6 else none) v.tf v.ta v.tg, wd_Prg cs (v.re 2) v.rp (fun k => if k = 2 then (some v.fu) else none) v.fp (fun _ _ => 0) (fun _ _ => none), [((v.rp 1), .inl (cs 0, 16384, .inl v.cd))], [(v.fu, .inl (cs 0, 684, .inl v.ft))], wd_Nam cs (v.re 1) v.rn v.no v.nf v.na v.ng, wd_Lst cs (v.rn 0) (fun _ => 0) (fun k => if k = 0 then (some v.lq) else none) v.lf (fun _ _ => 0) (fun _ _ => none), lA cs v.own v.lq v.lc v.lg, wd_Lst cs (v.rn 1) (fun _ => 0) (fun k => if k = 0 then (some v.fq) else none) v.ff (fun _ _ => 0) (fun _ _ => none), [(v.fq, .inl (cs 12, v.fc, .inr (.inr (.inr (.inr v.fg)))))], v.P, wd_Prg cs v.hs v.rs (fun k => if k = 2 then none else none) v.fs (fun _ _ => 0) (fun _ _ => none), [((v.rs 1), .inl (cs 0, 8200, .inl v.sd))], wd_Ker cs v.hk v.kr (fun _ => none) v.kf v.ka (gKe v.pq v.pz v.tq v.rq), fm 13 (fTx cs v.tq v.TR v.TO v.TF v.TA), fm 13 (fRw cs v.rq v.RR v.RM v.RW v.RF v.RA v.RC), fm 8 (fPp cs v.pq v.PV), M]) (pcs := [wd_Hs cs xh (fun k => if k = 1 then v.hc else if k = 2 then v.hk else v.xt k) (fun _ => none) v.xf v.xa (fun _ _ => none)]) hw1 px_X.tt (px_recv hT hw1 20 0 rfl rfl rfl) m3_38 m3_35 m3_36 m3_37 m1_1 q_Hs_pages hR hl rfl hrm hdg hf) hw1 hA (fun r p1 H1 locs1 hp hw => ?_)
  obtain ⟨e0, e1⟩ := hp
  subst e0
  exact kk r H1 locs1 (pw_sh (pcs := v.ps cs xh) (hw.sub [0, 20, 1, 2, 3, 4, 5, 6, 7, 8, 9, 10, 11, 12, 13, 14, 15, 16, 17, 18, 19] rfl rfl))
set_option maxHeartbeats 4000000 in
theorem s_wrong {em xh LL a b sn9 : Nat} {sb : Nat → Int32} {F : Int} {X : KS} (S : px_S p m c cc nL s args "HomeSystemLaw") (hT : Tb D cs s) (hA : ∀ q, s.heap.size ≤ q → A q) (hC : CI cs em xh sn9 sb F X LL a b C) (hw : pw D A s.heap H locs [w, C, M]) (hR : 1 ≤ R.frames ∧ 20 ≤ R.locals) (hl : ls.size = nL) (hrm : (rest.map fun v => v.category).sum ≤ 8) (hdg : decode cc pc = .ok (.invokevirtual 124, 3)) (hf : cells + 0 ≤ R.cells ∧ slots + 0 ≤ R.slots)
  (kk : ∀ (r : Int32) (H1 : Heap) (locs1 : List Loc), pw D A s.heap H1 locs1 [w, C, M] → W p l e R s m args below meth c H1 locs1 (cells + 0) (slots + 0) Q (F0 m (pc + 3) ls (.int r :: rest))) :
  W p l e R s m args below meth c H locs cells slots Q (F0 m pc ls (.ref xh :: rest)) := by
  obtain ⟨v, rfl, -, -, -, -, -, -, -, hX⟩ := hC
  subst hX
  have hw1 : pw D A s.heap H locs ([w, wd_Exp cs v.he v.re v.eo v.ef v.ea v.eg, wd_Cmp cs v.hc (fun k => if k = 0 then v.re 0 else if k = 1 then v.re 1 else if k = 2 then v.he else if k = 3 then v.re 2 else if k = 4 then v.hs else v.ra k) (fun k => if k = 9 then v.fo else none) v.cf v.ca (fun _ _ => none), wd_Tok cs (v.re 0) v.rt (fun k => if k = 6 then v.ob6 else none) v.tf v.ta v.tg, wd_Prg cs (v.re 2) v.rp (fun k => if k = 2 then (some v.fu) else none) v.fp (fun _ _ => 0) (fun _ _ => none), [((v.rp 1), .inl (cs 0, 16384, .inl v.cd))], [(v.fu, .inl (cs 0, 684, .inl v.ft))], wd_Nam cs (v.re 1) v.rn v.no v.nf v.na v.ng, wd_Lst cs (v.rn 0) (fun _ => 0) (fun k => if k = 0 then (some v.lq) else none) v.lf (fun _ _ => 0) (fun _ _ => none), lA cs v.own v.lq v.lc v.lg, wd_Lst cs (v.rn 1) (fun _ => 0) (fun k => if k = 0 then (some v.fq) else none) v.ff (fun _ _ => 0) (fun _ _ => none), [(v.fq, .inl (cs 12, v.fc, .inr (.inr (.inr (.inr v.fg)))))], v.P, wd_Prg cs v.hs v.rs (fun k => if k = 2 then none else none) v.fs (fun _ _ => 0) (fun _ _ => none), [((v.rs 1), .inl (cs 0, 8200, .inl v.sd))], wd_Ker cs v.hk v.kr (fun _ => none) v.kf v.ka (gKe v.pq v.pz v.tq v.rq), fm 13 (fTx cs v.tq v.TR v.TO v.TF v.TA), fm 13 (fRw cs v.rq v.RR v.RM v.RW v.RF v.RA v.RC), fm 8 (fPp cs v.pq v.PV), M] ++ [wd_Hs cs xh (fun k => if k = 1 then v.hc else if k = 2 then v.hk else v.xt k) (fun _ => none) v.xf v.xa (fun _ _ => none)]) := (pw_op hw).sub [0, 2, 3, 4, 5, 6, 7, 8, 9, 10, 11, 12, 13, 14, 15, 16, 17, 18, 19, 20, 1] rfl rfl
  refine px_calli (pr := [w, wd_Exp cs v.he v.re v.eo v.ef v.ea v.eg, wd_Cmp cs v.hc (fun k => if k = 0 then v.re 0 else if k = 1 then v.re 1 else if k = 2 then v.he else if k = 3 then v.re 2 else if k = 4 then v.hs else v.ra k) (fun k => if k = 9 then v.fo else none) v.cf v.ca (fun _ _ => none), wd_Tok cs (v.re 0) v.rt (fun k => if k = 6 then v.ob6 else none) v.tf v.ta v.tg, wd_Prg cs (v.re 2) v.rp (fun k => if k = 2 then (some v.fu) else none) v.fp (fun _ _ => 0) (fun _ _ => none), [((v.rp 1), .inl (cs 0, 16384, .inl v.cd))], [(v.fu, .inl (cs 0, 684, .inl v.ft))], wd_Nam cs (v.re 1) v.rn v.no v.nf v.na v.ng, wd_Lst cs (v.rn 0) (fun _ => 0) (fun k => if k = 0 then (some v.lq) else none) v.lf (fun _ _ => 0) (fun _ _ => none), lA cs v.own v.lq v.lc v.lg, wd_Lst cs (v.rn 1) (fun _ => 0) (fun k => if k = 0 then (some v.fq) else none) v.ff (fun _ _ => 0) (fun _ _ => none), [(v.fq, .inl (cs 12, v.fc, .inr (.inr (.inr (.inr v.fg)))))], v.P, wd_Prg cs v.hs v.rs (fun k => if k = 2 then none else none) v.fs (fun _ _ => 0) (fun _ _ => none), [((v.rs 1), .inl (cs 0, 8200, .inl v.sd))], wd_Ker cs v.hk v.kr (fun _ => none) v.kf v.ka (gKe v.pq v.pz v.tq v.rq), fm 13 (fTx cs v.tq v.TR v.TO v.TF v.TA), fm 13 (fRw cs v.rq v.RR v.RM v.RW v.RF v.RA v.RC), fm 8 (fPp cs v.pq v.PV), M]) (pcs := [wd_Hs cs xh (fun k => if k = 1 then v.hc else if k = 2 then v.hk else v.xt k) (fun _ => none) v.xf v.xa (fun _ _ => none)]) (px_runV (As := []) (rest := rest) S (c_Hs_wrong l D cs xh (fun k => if k = 1 then v.hc else if k = 2 then v.hk else v.xt k) (fun _ => none) (fun _ _ => none) v.xf v.xa _) hT (pr := [w, wd_Exp cs v.he v.re v.eo v.ef v.ea v.eg, wd_Cmp cs v.hc (fun k => if k = 0 then v.re 0 else if k = 1 then v.re 1 else if k = 2 then v.he else if k = 3 then v.re 2 else if k = 4 then v.hs else v.ra k) (fun k => if k = 9 then v.fo else none) v.cf v.ca (fun _ _ => none), wd_Tok cs (v.re 0) v.rt (fun k => if k = 6 then v.ob6 else none) v.tf v.ta v.tg, wd_Prg cs (v.re 2) v.rp (fun k => if k = 2 then (some v.fu) else none) v.fp (fun _ _ => 0) (fun _ _ => none), [((v.rp 1), .inl (cs 0, 16384, .inl v.cd))], [(v.fu, .inl (cs 0, 684, .inl v.ft))], wd_Nam cs (v.re 1) v.rn v.no v.nf v.na v.ng, wd_Lst cs (v.rn 0) (fun _ => 0) (fun k => if k = 0 then (some v.lq) else none) v.lf (fun _ _ => 0) (fun _ _ => none), lA cs v.own v.lq v.lc v.lg, wd_Lst cs (v.rn 1) (fun _ => 0) (fun k => if k = 0 then (some v.fq) else none) v.ff (fun _ _ => 0) (fun _ _ => none), [(v.fq, .inl (cs 12, v.fc, .inr (.inr (.inr (.inr v.fg)))))], v.P, wd_Prg cs v.hs v.rs (fun k => if k = 2 then none else none) v.fs (fun _ _ => 0) (fun _ _ => none), [((v.rs 1), .inl (cs 0, 8200, .inl v.sd))], wd_Ker cs v.hk v.kr (fun _ => none) v.kf v.ka (gKe v.pq v.pz v.tq v.rq), fm 13 (fTx cs v.tq v.TR v.TO v.TF v.TA), fm 13 (fRw cs v.rq v.RR v.RM v.RW v.RF v.RA v.RC), fm 8 (fPp cs v.pq v.PV), M]) (pcs := [wd_Hs cs xh (fun k => if k = 1 then v.hc else if k = 2 then v.hk else v.xt k) (fun _ => none) v.xf v.xa (fun _ _ => none)]) hw1 px_X.tt (px_recv hT hw1 20 0 rfl rfl rfl) m3_42 m3_39 m3_40 m3_41 m1_1 q_Hs_wrong hR hl rfl hrm hdg hf) hw1 hA (fun r p1 H1 locs1 hp hw => ?_)
  obtain ⟨e0, e1⟩ := hp
  subst e0
  exact kk r H1 locs1 (pw_sh (pcs := v.ps cs xh) (hw.sub [0, 20, 1, 2, 3, 4, 5, 6, 7, 8, 9, 10, 11, 12, 13, 14, 15, 16, 17, 18, 19] rfl rfl))
set_option maxHeartbeats 4000000 in
theorem s_life {em xh LL a b sn9 : Nat} {sb : Nat → Int32} {F : Int} {X : KS} (S : px_S p m c cc nL s args "HomeSystemLaw") (hT : Tb D cs s) (hA : ∀ q, s.heap.size ≤ q → A q) (hC : CI cs em xh sn9 sb F X LL a b C) (hw : pw D A s.heap H locs [w, C, M]) (hR : 1 ≤ R.frames ∧ 20 ≤ R.locals) (hl : ls.size = nL) (hrm : (rest.map fun v => v.category).sum ≤ 8) (hdg : decode cc pc = .ok (.invokevirtual 128, 3)) (hf : cells + 0 ≤ R.cells ∧ slots + 0 ≤ R.slots)
  (kk : ∀ (r : Int32) (H1 : Heap) (locs1 : List Loc), r.toInt = X.1 → pw D A s.heap H1 locs1 [w, C, M] → W p l e R s m args below meth c H1 locs1 (cells + 0) (slots + 0) Q (F0 m (pc + 3) ls (.int r :: rest))) :
  W p l e R s m args below meth c H locs cells slots Q (F0 m pc ls (.ref xh :: rest)) := by
  obtain ⟨v, rfl, -, -, -, -, -, -, -, hX⟩ := hC
  subst hX
  have hw1 : pw D A s.heap H locs ([w, wd_Exp cs v.he v.re v.eo v.ef v.ea v.eg, wd_Cmp cs v.hc (fun k => if k = 0 then v.re 0 else if k = 1 then v.re 1 else if k = 2 then v.he else if k = 3 then v.re 2 else if k = 4 then v.hs else v.ra k) (fun k => if k = 9 then v.fo else none) v.cf v.ca (fun _ _ => none), wd_Tok cs (v.re 0) v.rt (fun k => if k = 6 then v.ob6 else none) v.tf v.ta v.tg, wd_Prg cs (v.re 2) v.rp (fun k => if k = 2 then (some v.fu) else none) v.fp (fun _ _ => 0) (fun _ _ => none), [((v.rp 1), .inl (cs 0, 16384, .inl v.cd))], [(v.fu, .inl (cs 0, 684, .inl v.ft))], wd_Nam cs (v.re 1) v.rn v.no v.nf v.na v.ng, wd_Lst cs (v.rn 0) (fun _ => 0) (fun k => if k = 0 then (some v.lq) else none) v.lf (fun _ _ => 0) (fun _ _ => none), lA cs v.own v.lq v.lc v.lg, wd_Lst cs (v.rn 1) (fun _ => 0) (fun k => if k = 0 then (some v.fq) else none) v.ff (fun _ _ => 0) (fun _ _ => none), [(v.fq, .inl (cs 12, v.fc, .inr (.inr (.inr (.inr v.fg)))))], v.P, wd_Prg cs v.hs v.rs (fun k => if k = 2 then none else none) v.fs (fun _ _ => 0) (fun _ _ => none), [((v.rs 1), .inl (cs 0, 8200, .inl v.sd))], wd_Ker cs v.hk v.kr (fun _ => none) v.kf v.ka (gKe v.pq v.pz v.tq v.rq), fm 13 (fTx cs v.tq v.TR v.TO v.TF v.TA), fm 13 (fRw cs v.rq v.RR v.RM v.RW v.RF v.RA v.RC), fm 8 (fPp cs v.pq v.PV), M] ++ [wd_Hs cs xh (fun k => if k = 1 then v.hc else if k = 2 then v.hk else v.xt k) (fun _ => none) v.xf v.xa (fun _ _ => none)]) := (pw_op hw).sub [0, 2, 3, 4, 5, 6, 7, 8, 9, 10, 11, 12, 13, 14, 15, 16, 17, 18, 19, 20, 1] rfl rfl
  refine px_calli (pr := [w, wd_Exp cs v.he v.re v.eo v.ef v.ea v.eg, wd_Cmp cs v.hc (fun k => if k = 0 then v.re 0 else if k = 1 then v.re 1 else if k = 2 then v.he else if k = 3 then v.re 2 else if k = 4 then v.hs else v.ra k) (fun k => if k = 9 then v.fo else none) v.cf v.ca (fun _ _ => none), wd_Tok cs (v.re 0) v.rt (fun k => if k = 6 then v.ob6 else none) v.tf v.ta v.tg, wd_Prg cs (v.re 2) v.rp (fun k => if k = 2 then (some v.fu) else none) v.fp (fun _ _ => 0) (fun _ _ => none), [((v.rp 1), .inl (cs 0, 16384, .inl v.cd))], [(v.fu, .inl (cs 0, 684, .inl v.ft))], wd_Nam cs (v.re 1) v.rn v.no v.nf v.na v.ng, wd_Lst cs (v.rn 0) (fun _ => 0) (fun k => if k = 0 then (some v.lq) else none) v.lf (fun _ _ => 0) (fun _ _ => none), lA cs v.own v.lq v.lc v.lg, wd_Lst cs (v.rn 1) (fun _ => 0) (fun k => if k = 0 then (some v.fq) else none) v.ff (fun _ _ => 0) (fun _ _ => none), [(v.fq, .inl (cs 12, v.fc, .inr (.inr (.inr (.inr v.fg)))))], v.P, wd_Prg cs v.hs v.rs (fun k => if k = 2 then none else none) v.fs (fun _ _ => 0) (fun _ _ => none), [((v.rs 1), .inl (cs 0, 8200, .inl v.sd))], wd_Ker cs v.hk v.kr (fun _ => none) v.kf v.ka (gKe v.pq v.pz v.tq v.rq), fm 13 (fTx cs v.tq v.TR v.TO v.TF v.TA), fm 13 (fRw cs v.rq v.RR v.RM v.RW v.RF v.RA v.RC), fm 8 (fPp cs v.pq v.PV), M]) (pcs := [wd_Hs cs xh (fun k => if k = 1 then v.hc else if k = 2 then v.hk else v.xt k) (fun _ => none) v.xf v.xa (fun _ _ => none)]) (px_runV (As := []) (rest := rest) S (c_Hs_life l D cs xh (fun k => if k = 1 then v.hc else if k = 2 then v.hk else v.xt k) (fun _ => none) (fun _ _ => none) v.xf v.xa _) hT (pr := [w, wd_Exp cs v.he v.re v.eo v.ef v.ea v.eg, wd_Cmp cs v.hc (fun k => if k = 0 then v.re 0 else if k = 1 then v.re 1 else if k = 2 then v.he else if k = 3 then v.re 2 else if k = 4 then v.hs else v.ra k) (fun k => if k = 9 then v.fo else none) v.cf v.ca (fun _ _ => none), wd_Tok cs (v.re 0) v.rt (fun k => if k = 6 then v.ob6 else none) v.tf v.ta v.tg, wd_Prg cs (v.re 2) v.rp (fun k => if k = 2 then (some v.fu) else none) v.fp (fun _ _ => 0) (fun _ _ => none), [((v.rp 1), .inl (cs 0, 16384, .inl v.cd))], [(v.fu, .inl (cs 0, 684, .inl v.ft))], wd_Nam cs (v.re 1) v.rn v.no v.nf v.na v.ng, wd_Lst cs (v.rn 0) (fun _ => 0) (fun k => if k = 0 then (some v.lq) else none) v.lf (fun _ _ => 0) (fun _ _ => none), lA cs v.own v.lq v.lc v.lg, wd_Lst cs (v.rn 1) (fun _ => 0) (fun k => if k = 0 then (some v.fq) else none) v.ff (fun _ _ => 0) (fun _ _ => none), [(v.fq, .inl (cs 12, v.fc, .inr (.inr (.inr (.inr v.fg)))))], v.P, wd_Prg cs v.hs v.rs (fun k => if k = 2 then none else none) v.fs (fun _ _ => 0) (fun _ _ => none), [((v.rs 1), .inl (cs 0, 8200, .inl v.sd))], wd_Ker cs v.hk v.kr (fun _ => none) v.kf v.ka (gKe v.pq v.pz v.tq v.rq), fm 13 (fTx cs v.tq v.TR v.TO v.TF v.TA), fm 13 (fRw cs v.rq v.RR v.RM v.RW v.RF v.RA v.RC), fm 8 (fPp cs v.pq v.PV), M]) (pcs := [wd_Hs cs xh (fun k => if k = 1 then v.hc else if k = 2 then v.hk else v.xt k) (fun _ => none) v.xf v.xa (fun _ _ => none)]) hw1 px_X.tt (px_recv hT hw1 20 0 rfl rfl rfl) m3_46 m3_43 m3_44 m3_45 m1_1 q_Hs_life hR hl rfl hrm hdg hf) hw1 hA (fun r p1 H1 locs1 hp hw => ?_)
  obtain ⟨e0, e1⟩ := hp
  subst e0
  exact kk r H1 locs1 (show r.toInt = (v.xf 5).toInt from by omega) (pw_sh (pcs := v.ps cs xh) (hw.sub [0, 20, 1, 2, 3, 4, 5, 6, 7, 8, 9, 10, 11, 12, 13, 14, 15, 16, 17, 18, 19] rfl rfl))
end GH
