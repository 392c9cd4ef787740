theorem m3_18 : Cond.laysFinal "HomeSystem" "HomeSystem" "tape" "[B" ∈ AL := AL_3 (List.mem_of_getElem? (i := 18) rfl) rfl
theorem m3_20 : Cond.laysFinal "HomeSystem" "HomeSystem" "compiler" "LHomeSystem$TextCompiler;" ∈ AL := AL_3 (List.mem_of_getElem? (i := 20) rfl) rfl
theorem m3_22 : Cond.laysFinal "HomeSystem" "HomeSystem" "kernel" "LHomeSystem$Kernel;" ∈ AL := AL_3 (List.mem_of_getElem? (i := 22) rfl) rfl
theorem m3_24 : Cond.lays "HomeSystem" "HomeSystem" "fed" "I" ∈ AL := AL_3 (List.mem_of_getElem? (i := 24) rfl) rfl
theorem m3_26 : Cond.lays "HomeSystem" "HomeSystem" "told" "I" ∈ AL := AL_3 (List.mem_of_getElem? (i := 26) rfl) rfl
theorem m3_28 : Cond.lays "HomeSystem" "HomeSystem" "lifeLeft" "I" ∈ AL := AL_3 (List.mem_of_getElem? (i := 28) rfl) rfl
theorem m1_126 : Cond.laysFinal "HomeSystem$Tokens" "HomeSystem$Tokens" "kinds" "[I" ∈ AL := AL_1 (List.mem_of_getElem? (i := 126) rfl) rfl
theorem m1_128 : Cond.laysFinal "HomeSystem$Tokens" "HomeSystem$Tokens" "places" "[I" ∈ AL := AL_1 (List.mem_of_getElem? (i := 128) rfl) rfl
theorem m1_130 : Cond.laysFinal "HomeSystem$Tokens" "HomeSystem$Tokens" "values" "[I" ∈ AL := AL_1 (List.mem_of_getElem? (i := 130) rfl) rfl
theorem m1_132 : Cond.laysFinal "HomeSystem$Tokens" "HomeSystem$Tokens" "letters" "[C" ∈ AL := AL_1 (List.mem_of_getElem? (i := 132) rfl) rfl
theorem m1_134 : Cond.laysFinal "HomeSystem$Tokens" "HomeSystem$Tokens" "nameEnds" "[I" ∈ AL := AL_1 (List.mem_of_getElem? (i := 134) rfl) rfl
theorem m1_136 : Cond.laysFinal "HomeSystem$Tokens" "HomeSystem$Tokens" "quoted" "[I" ∈ AL := AL_1 (List.mem_of_getElem? (i := 136) rfl) rfl
theorem m1_138 : Cond.lays "HomeSystem$Tokens" "HomeSystem$Tokens" "bytes" "[B" ∈ AL := AL_1 (List.mem_of_getElem? (i := 138) rfl) rfl
theorem m1_140 : Cond.lays "HomeSystem$Tokens" "HomeSystem$Tokens" "length" "I" ∈ AL := AL_1 (List.mem_of_getElem? (i := 140) rfl) rfl
theorem m1_142 : Cond.lays "HomeSystem$Tokens" "HomeSystem$Tokens" "at" "I" ∈ AL := AL_1 (List.mem_of_getElem? (i := 142) rfl) rfl
theorem m1_144 : Cond.lays "HomeSystem$Tokens" "HomeSystem$Tokens" "found" "I" ∈ AL := AL_1 (List.mem_of_getElem? (i := 144) rfl) rfl
theorem m1_146 : Cond.lays "HomeSystem$Tokens" "HomeSystem$Tokens" "count" "I" ∈ AL := AL_1 (List.mem_of_getElem? (i := 146) rfl) rfl
theorem m1_148 : Cond.lays "HomeSystem$Tokens" "HomeSystem$Tokens" "names" "I" ∈ AL := AL_1 (List.mem_of_getElem? (i := 148) rfl) rfl
theorem m1_150 : Cond.lays "HomeSystem$Tokens" "HomeSystem$Tokens" "quotes" "I" ∈ AL := AL_1 (List.mem_of_getElem? (i := 150) rfl) rfl
theorem m1_152 : Cond.lays "HomeSystem$Tokens" "HomeSystem$Tokens" "now" "I" ∈ AL := AL_1 (List.mem_of_getElem? (i := 152) rfl) rfl
theorem m1_154 : Cond.lays "HomeSystem$Tokens" "HomeSystem$Tokens" "open" "I" ∈ AL := AL_1 (List.mem_of_getElem? (i := 154) rfl) rfl
theorem m1_156 : Cond.lays "HomeSystem$Tokens" "HomeSystem$Tokens" "failed" "Z" ∈ AL := AL_1 (List.mem_of_getElem? (i := 156) rfl) rfl
theorem m1_158 : Cond.lays "HomeSystem$Tokens" "HomeSystem$Tokens" "failedAt" "I" ∈ AL := AL_1 (List.mem_of_getElem? (i := 158) rfl) rfl
theorem m1_160 : Cond.lays "HomeSystem$Tokens" "HomeSystem$Tokens" "wrongToken" "I" ∈ AL := AL_1 (List.mem_of_getElem? (i := 160) rfl) rfl
theorem m1_162 : Cond.lays "HomeSystem$Tokens" "HomeSystem$Tokens" "wrongNumber" "I" ∈ AL := AL_1 (List.mem_of_getElem? (i := 162) rfl) rfl
theorem m2_80 : Cond.laysFinal "HomeSystem$Names" "HomeSystem$Names" "symbols" "Ljava/util/ArrayList;" ∈ AL := AL_2 (List.mem_of_getElem? (i := 80) rfl) rfl
theorem m2_82 : Cond.laysFinal "HomeSystem$Names" "HomeSystem$Names" "functions" "Ljava/util/ArrayList;" ∈ AL := AL_2 (List.mem_of_getElem? (i := 82) rfl) rfl
theorem m2_84 : Cond.laysFinal "HomeSystem$Names" "HomeSystem$Names" "wants" "[I" ∈ AL := AL_2 (List.mem_of_getElem? (i := 84) rfl) rfl
theorem m2_86 : Cond.lays "HomeSystem$Names" "HomeSystem$Names" "wanted" "I" ∈ AL := AL_2 (List.mem_of_getElem? (i := 86) rfl) rfl
theorem m2_88 : Cond.lays "HomeSystem$Names" "HomeSystem$Names" "scope" "I" ∈ AL := AL_2 (List.mem_of_getElem? (i := 88) rfl) rfl
theorem m1_227 : Cond.laysFinal "HomeSystem$Symbol" "HomeSystem$Symbol" "name" "I" ∈ AL := AL_1 (List.mem_of_getElem? (i := 227) rfl) rfl
theorem m1_229 : Cond.laysFinal "HomeSystem$Symbol" "HomeSystem$Symbol" "sort" "I" ∈ AL := AL_1 (List.mem_of_getElem? (i := 229) rfl) rfl
theorem m1_231 : Cond.lays "HomeSystem$Symbol" "HomeSystem$Symbol" "mode" "I" ∈ AL := AL_1 (List.mem_of_getElem? (i := 231) rfl) rfl
theorem m1_233 : Cond.lays "HomeSystem$Symbol" "HomeSystem$Symbol" "base" "I" ∈ AL := AL_1 (List.mem_of_getElem? (i := 233) rfl) rfl
theorem m1_235 : Cond.lays "HomeSystem$Symbol" "HomeSystem$Symbol" "size" "I" ∈ AL := AL_1 (List.mem_of_getElem? (i := 235) rfl) rfl
theorem m1_237 : Cond.lays "HomeSystem$Symbol" "HomeSystem$Symbol" "number" "I" ∈ AL := AL_1 (List.mem_of_getElem? (i := 237) rfl) rfl
theorem m1_239 : Cond.lays "HomeSystem$Symbol" "HomeSystem$Symbol" "type" "I" ∈ AL := AL_1 (List.mem_of_getElem? (i := 239) rfl) rfl
theorem m2_112 : Cond.laysFinal "HomeSystem$Program" "HomeSystem$Program" "isRaw" "Z" ∈ AL := AL_2 (List.mem_of_getElem? (i := 112) rfl) rfl
theorem m2_114 : Cond.laysFinal "HomeSystem$Program" "HomeSystem$Program" "code" "[I" ∈ AL := AL_2 (List.mem_of_getElem? (i := 114) rfl) rfl
theorem m2_116 : Cond.laysFinal "HomeSystem$Program" "HomeSystem$Program" "functions" "[I" ∈ AL := AL_2 (List.mem_of_getElem? (i := 116) rfl) rfl
theorem m2_118 : Cond.lays "HomeSystem$Program" "HomeSystem$Program" "size" "I" ∈ AL := AL_2 (List.mem_of_getElem? (i := 118) rfl) rfl
theorem m2_120 : Cond.lays "HomeSystem$Program" "HomeSystem$Program" "start" "I" ∈ AL := AL_2 (List.mem_of_getElem? (i := 120) rfl) rfl
theorem m2_122 : Cond.lays "HomeSystem$Program" "HomeSystem$Program" "globals" "I" ∈ AL := AL_2 (List.mem_of_getElem? (i := 122) rfl) rfl
theorem m2_134 : Cond.laysFinal "HomeSystem$Expressions" "HomeSystem$Expressions" "tokens" "LHomeSystem$Tokens;" ∈ AL := AL_2 (List.mem_of_getElem? (i := 134) rfl) rfl
theorem m2_136 : Cond.laysFinal "HomeSystem$Expressions" "HomeSystem$Expressions" "names" "LHomeSystem$Names;" ∈ AL := AL_2 (List.mem_of_getElem? (i := 136) rfl) rfl
theorem m2_138 : Cond.laysFinal "HomeSystem$Expressions" "HomeSystem$Expressions" "program" "LHomeSystem$Program;" ∈ AL := AL_2 (List.mem_of_getElem? (i := 138) rfl) rfl
theorem m2_167 : Cond.laysFinal "HomeSystem$TextCompiler" "HomeSystem$TextCompiler" "tokens" "LHomeSystem$Tokens;" ∈ AL := AL_2 (List.mem_of_getElem? (i := 167) rfl) rfl
theorem m2_169 : Cond.laysFinal "HomeSystem$TextCompiler" "HomeSystem$TextCompiler" "names" "LHomeSystem$Names;" ∈ AL := AL_2 (List.mem_of_getElem? (i := 169) rfl) rfl
theorem m2_171 : Cond.laysFinal "HomeSystem$TextCompiler" "HomeSystem$TextCompiler" "expressions" "LHomeSystem$Expressions;" ∈ AL := AL_2 (List.mem_of_getElem? (i := 171) rfl) rfl
theorem m2_173 : Cond.laysFinal "HomeSystem$TextCompiler" "HomeSystem$TextCompiler" "program" "LHomeSystem$Program;" ∈ AL := AL_2 (List.mem_of_getElem? (i := 173) rfl) rfl
theorem m2_175 : Cond.laysFinal "HomeSystem$TextCompiler" "HomeSystem$TextCompiler" "setup" "LHomeSystem$Program;" ∈ AL := AL_2 (List.mem_of_getElem? (i := 175) rfl) rfl
theorem m2_177 : Cond.laysFinal "HomeSystem$TextCompiler" "HomeSystem$TextCompiler" "caseNumbers" "[I" ∈ AL := AL_2 (List.mem_of_getElem? (i := 177) rfl) rfl
theorem m2_179 : Cond.laysFinal "HomeSystem$TextCompiler" "HomeSystem$TextCompiler" "caseTargets" "[I" ∈ AL := AL_2 (List.mem_of_getElem? (i := 179) rfl) rfl
theorem m2_181 : Cond.lays "HomeSystem$TextCompiler" "HomeSystem$TextCompiler" "cases" "I" ∈ AL := AL_2 (List.mem_of_getElem? (i := 181) rfl) rfl
theorem m2_183 : Cond.lays "HomeSystem$TextCompiler" "HomeSystem$TextCompiler" "firstTime" "Z" ∈ AL := AL_2 (List.mem_of_getElem? (i := 183) rfl) rfl
theorem m2_185 : Cond.lays "HomeSystem$TextCompiler" "HomeSystem$TextCompiler" "function" "LHomeSystem$Symbol;" ∈ AL := AL_2 (List.mem_of_getElem? (i := 185) rfl) rfl
theorem m2_187 : Cond.lays "HomeSystem$TextCompiler" "HomeSystem$TextCompiler" "begun" "I" ∈ AL := AL_2 (List.mem_of_getElem? (i := 187) rfl) rfl
theorem m2_189 : Cond.lays "HomeSystem$TextCompiler" "HomeSystem$TextCompiler" "globals" "I" ∈ AL := AL_2 (List.mem_of_getElem? (i := 189) rfl) rfl
theorem m2_191 : Cond.lays "HomeSystem$TextCompiler" "HomeSystem$TextCompiler" "locals" "I" ∈ AL := AL_2 (List.mem_of_getElem? (i := 191) rfl) rfl
theorem m2_193 : Cond.lays "HomeSystem$TextCompiler" "HomeSystem$TextCompiler" "height" "I" ∈ AL := AL_2 (List.mem_of_getElem? (i := 193) rfl) rfl
theorem m2_195 : Cond.lays "HomeSystem$TextCompiler" "HomeSystem$TextCompiler" "loops" "I" ∈ AL := AL_2 (List.mem_of_getElem? (i := 195) rfl) rfl
theorem m2_197 : Cond.lays "HomeSystem$TextCompiler" "HomeSystem$TextCompiler" "breakables" "I" ∈ AL := AL_2 (List.mem_of_getElem? (i := 197) rfl) rfl
theorem m2_199 : Cond.lays "HomeSystem$TextCompiler" "HomeSystem$TextCompiler" "breaks" "I" ∈ AL := AL_2 (List.mem_of_getElem? (i := 199) rfl) rfl
theorem m2_201 : Cond.lays "HomeSystem$TextCompiler" "HomeSystem$TextCompiler" "continues" "I" ∈ AL := AL_2 (List.mem_of_getElem? (i := 201) rfl) rfl
theorem m2_231 : Cond.laysFinal "HomeSystem$Kernel" "HomeSystem$Kernel" "programs" "[LHomeSystem$Program;" ∈ AL := AL_2 (List.mem_of_getElem? (i := 231) rfl) rfl
theorem m2_233 : Cond.laysFinal "HomeSystem$Kernel" "HomeSystem$Kernel" "blocks" "[I" ∈ AL := AL_2 (List.mem_of_getElem? (i := 233) rfl) rfl
theorem m2_235 : Cond.laysFinal "HomeSystem$Kernel" "HomeSystem$Kernel" "processes" "[LHomeSystem$AnyProcess;" ∈ AL := AL_2 (List.mem_of_getElem? (i := 235) rfl) rfl
theorem m2_237 : Cond.laysFinal "HomeSystem$Kernel" "HomeSystem$Kernel" "texts" "[LHomeSystem$TextProcess;" ∈ AL := AL_2 (List.mem_of_getElem? (i := 237) rfl) rfl
theorem m2_239 : Cond.laysFinal "HomeSystem$Kernel" "HomeSystem$Kernel" "raws" "[LHomeSystem$RawProcess;" ∈ AL := AL_2 (List.mem_of_getElem? (i := 239) rfl) rfl
theorem m3_1 : Cond.laysFinal "HomeSystem$Kernel" "HomeSystem$Kernel" "rowNumbers" "[I" ∈ AL := AL_3 (List.mem_of_getElem? (i := 1) rfl) rfl
theorem m3_3 : Cond.laysFinal "HomeSystem$Kernel" "HomeSystem$Kernel" "rowHeads" "[I" ∈ AL := AL_3 (List.mem_of_getElem? (i := 3) rfl) rfl
theorem m3_5 : Cond.laysFinal "HomeSystem$Kernel" "HomeSystem$Kernel" "rowCounts" "[I" ∈ AL := AL_3 (List.mem_of_getElem? (i := 5) rfl) rfl
theorem m3_7 : Cond.lays "HomeSystem$Kernel" "HomeSystem$Kernel" "work" "I" ∈ AL := AL_3 (List.mem_of_getElem? (i := 7) rfl) rfl
theorem m3_9 : Cond.lays "HomeSystem$Kernel" "HomeSystem$Kernel" "stack" "I" ∈ AL := AL_3 (List.mem_of_getElem? (i := 9) rfl) rfl
theorem m4_236 : Cond.lays "HomeSystem$Operand" "HomeSystem$Operand" "first" "I" ∈ AL := AL_4 (List.mem_of_getElem? (i := 236) rfl) rfl
theorem m4_238 : Cond.lays "HomeSystem$Operand" "HomeSystem$Operand" "sort" "I" ∈ AL := AL_4 (List.mem_of_getElem? (i := 238) rfl) rfl
theorem m5_0 : Cond.lays "HomeSystem$Operand" "HomeSystem$Operand" "state" "I" ∈ AL := AL_5 (List.mem_of_getElem? (i := 0) rfl) rfl
theorem m5_2 : Cond.lays "HomeSystem$Operand" "HomeSystem$Operand" "call" "I" ∈ AL := AL_5 (List.mem_of_getElem? (i := 2) rfl) rfl
theorem m5_4 : Cond.lays "HomeSystem$Operand" "HomeSystem$Operand" "symbol" "LHomeSystem$Symbol;" ∈ AL := AL_5 (List.mem_of_getElem? (i := 4) rfl) rfl
theorem m5_6 : Cond.lays "HomeSystem$Operand" "HomeSystem$Operand" "depth" "I" ∈ AL := AL_5 (List.mem_of_getElem? (i := 6) rfl) rfl
theorem m5_8 : Cond.lays "HomeSystem$Operand" "HomeSystem$Operand" "height" "I" ∈ AL := AL_5 (List.mem_of_getElem? (i := 8) rfl) rfl
theorem m5_10 : Cond.lays "HomeSystem$Operand" "HomeSystem$Operand" "rank" "I" ∈ AL := AL_5 (List.mem_of_getElem? (i := 10) rfl) rfl
theorem m5_12 : Cond.lays "HomeSystem$Operand" "HomeSystem$Operand" "number" "I" ∈ AL := AL_5 (List.mem_of_getElem? (i := 12) rfl) rfl
theorem m6_171 : Cond.laysFinal "HomeSystem$RawProcess" "HomeSystem$RawProcess" "registers" "[I" ∈ AL := AL_6 (List.mem_of_getElem? (i := 171) rfl) rfl
theorem m6_173 : Cond.laysFinal "HomeSystem$RawProcess" "HomeSystem$RawProcess" "pageTimes" "[I" ∈ AL := AL_6 (List.mem_of_getElem? (i := 173) rfl) rfl
theorem m6_175 : Cond.lays "HomeSystem$RawProcess" "HomeSystem$RawProcess" "memory" "[I" ∈ AL := AL_6 (List.mem_of_getElem? (i := 175) rfl) rfl
theorem m6_177 : Cond.lays "HomeSystem$RawProcess" "HomeSystem$RawProcess" "time" "I" ∈ AL := AL_6 (List.mem_of_getElem? (i := 177) rfl) rfl
theorem m6_179 : Cond.lays "HomeSystem$RawProcess" "HomeSystem$RawProcess" "words" "[I" ∈ AL := AL_6 (List.mem_of_getElem? (i := 179) rfl) rfl
theorem m6_181 : Cond.lays "HomeSystem$RawProcess" "HomeSystem$RawProcess" "pc" "I" ∈ AL := AL_6 (List.mem_of_getElem? (i := 181) rfl) rfl
theorem m6_183 : Cond.lays "HomeSystem$RawProcess" "HomeSystem$RawProcess" "next" "I" ∈ AL := AL_6 (List.mem_of_getElem? (i := 183) rfl) rfl
theorem m6_185 : Cond.lays "HomeSystem$RawProcess" "HomeSystem$RawProcess" "meter" "I" ∈ AL := AL_6 (List.mem_of_getElem? (i := 185) rfl) rfl
theorem m6_187 : Cond.laysFinal "HomeSystem$RawProcess" "HomeSystem$AnyProcess" "id" "I" ∈ AL := AL_6 (List.mem_of_getElem? (i := 187) rfl) rfl
theorem m6_189 : Cond.laysFinal "HomeSystem$RawProcess" "HomeSystem$AnyProcess" "numbers" "[I" ∈ AL := AL_6 (List.mem_of_getElem? (i := 189) rfl) rfl
theorem m6_191 : Cond.lays "HomeSystem$RawProcess" "HomeSystem$AnyProcess" "written" "I" ∈ AL := AL_6 (List.mem_of_getElem? (i := 191) rfl) rfl
theorem m6_193 : Cond.lays "HomeSystem$RawProcess" "HomeSystem$AnyProcess" "outcome" "I" ∈ AL := AL_6 (List.mem_of_getElem? (i := 193) rfl) rfl
theorem m6_195 : Cond.lays "HomeSystem$RawProcess" "HomeSystem$AnyProcess" "given" "I" ∈ AL := AL_6 (List.mem_of_getElem? (i := 195) rfl) rfl
theorem m6_197 : Cond.lays "HomeSystem$RawProcess" "HomeSystem$AnyProcess" "children" "I" ∈ AL := AL_6 (List.mem_of_getElem? (i := 197) rfl) rfl
theorem m6_199 : Cond.lays "HomeSystem$RawProcess" "HomeSystem$AnyProcess" "calling" "Z" ∈ AL := AL_6 (List.mem_of_getElem? (i := 199) rfl) rfl
theorem m6_201 : Cond.lays "HomeSystem$RawProcess" "HomeSystem$AnyProcess" "which" "I" ∈ AL := AL_6 (List.mem_of_getElem? (i := 201) rfl) rfl
theorem m6_203 : Cond.lays "HomeSystem$RawProcess" "HomeSystem$AnyProcess" "first" "I" ∈ AL := AL_6 (List.mem_of_getElem? (i := 203) rfl) rfl
theorem m6_205 : Cond.lays "HomeSystem$RawProcess" "HomeSystem$AnyProcess" "second" "I" ∈ AL := AL_6 (List.mem_of_getElem? (i := 205) rfl) rfl
theorem m6_228 : Cond.laysFinal "HomeSystem$TextProcess" "HomeSystem$TextProcess" "memory" "[I" ∈ AL := AL_6 (List.mem_of_getElem? (i := 228) rfl) rfl
theorem m6_230 : Cond.laysFinal "HomeSystem$TextProcess" "HomeSystem$TextProcess" "hand" "[I" ∈ AL := AL_6 (List.mem_of_getElem? (i := 230) rfl) rfl
theorem m6_232 : Cond.laysFinal "HomeSystem$TextProcess" "HomeSystem$TextProcess" "returns" "[I" ∈ AL := AL_6 (List.mem_of_getElem? (i := 232) rfl) rfl
theorem m6_234 : Cond.lays "HomeSystem$TextProcess" "HomeSystem$TextProcess" "program" "LHomeSystem$Program;" ∈ AL := AL_6 (List.mem_of_getElem? (i := 234) rfl) rfl
theorem m6_236 : Cond.lays "HomeSystem$TextProcess" "HomeSystem$TextProcess" "pc" "I" ∈ AL := AL_6 (List.mem_of_getElem? (i := 236) rfl) rfl
theorem m6_238 : Cond.lays "HomeSystem$TextProcess" "HomeSystem$TextProcess" "held" "I" ∈ AL := AL_6 (List.mem_of_getElem? (i := 238) rfl) rfl
theorem m7_0 : Cond.lays "HomeSystem$TextProcess" "HomeSystem$TextProcess" "frame" "I" ∈ AL := AL_7 (List.mem_of_getElem? (i := 0) rfl) rfl
theorem m7_2 : Cond.lays "HomeSystem$TextProcess" "HomeSystem$TextProcess" "top" "I" ∈ AL := AL_7 (List.mem_of_getElem? (i := 2) rfl) rfl
theorem m7_4 : Cond.lays "HomeSystem$TextProcess" "HomeSystem$TextProcess" "depth" "I" ∈ AL := AL_7 (List.mem_of_getElem? (i := 4) rfl) rfl
theorem m7_6 : Cond.lays "HomeSystem$TextProcess" "HomeSystem$TextProcess" "work" "I" ∈ AL := AL_7 (List.mem_of_getElem? (i := 6) rfl) rfl
theorem m7_8 : Cond.lays "HomeSystem$TextProcess" "HomeSystem$TextProcess" "stack" "I" ∈ AL := AL_7 (List.mem_of_getElem? (i := 8) rfl) rfl
theorem m7_10 : Cond.lays "HomeSystem$TextProcess" "HomeSystem$TextProcess" "cell" "I" ∈ AL := AL_7 (List.mem_of_getElem? (i := 10) rfl) rfl
theorem m7_12 : Cond.lays "HomeSystem$TextProcess" "HomeSystem$TextProcess" "shift" "I" ∈ AL := AL_7 (List.mem_of_getElem? (i := 12) rfl) rfl
theorem m7_14 : Cond.lays "HomeSystem$TextProcess" "HomeSystem$TextProcess" "rowFrom" "I" ∈ AL := AL_7 (List.mem_of_getElem? (i := 14) rfl) rfl
theorem m7_16 : Cond.lays "HomeSystem$TextProcess" "HomeSystem$TextProcess" "rowSize" "I" ∈ AL := AL_7 (List.mem_of_getElem? (i := 16) rfl) rfl
theorem m7_18 : Cond.laysFinal "HomeSystem$TextProcess" "HomeSystem$AnyProcess" "id" "I" ∈ AL := AL_7 (List.mem_of_getElem? (i := 18) rfl) rfl
theorem m7_19 : Cond.laysFinal "HomeSystem$TextProcess" "HomeSystem$AnyProcess" "numbers" "[I" ∈ AL := AL_7 (List.mem_of_getElem? (i := 19) rfl) rfl
theorem m7_20 : Cond.lays "HomeSystem$TextProcess" "HomeSystem$AnyProcess" "written" "I" ∈ AL := AL_7 (List.mem_of_getElem? (i := 20) rfl) rfl
theorem m7_21 : Cond.lays "HomeSystem$TextProcess" "HomeSystem$AnyProcess" "outcome" "I" ∈ AL := AL_7 (List.mem_of_getElem? (i := 21) rfl) rfl
theorem m7_22 : Cond.lays "HomeSystem$TextProcess" "HomeSystem$AnyProcess" "given" "I" ∈ AL := AL_7 (List.mem_of_getElem? (i := 22) rfl) rfl
theorem m7_23 : Cond.lays "HomeSystem$TextProcess" "HomeSystem$AnyProcess" "children" "I" ∈ AL := AL_7 (List.mem_of_getElem? (i := 23) rfl) rfl
theorem m7_24 : Cond.lays "HomeSystem$TextProcess" "HomeSystem$AnyProcess" "calling" "Z" ∈ AL := AL_7 (List.mem_of_getElem? (i := 24) rfl) rfl
theorem m7_25 : Cond.lays "HomeSystem$TextProcess" "HomeSystem$AnyProcess" "which" "I" ∈ AL := AL_7 (List.mem_of_getElem? (i := 25) rfl) rfl
theorem m7_26 : Cond.lays "HomeSystem$TextProcess" "HomeSystem$AnyProcess" "first" "I" ∈ AL := AL_7 (List.mem_of_getElem? (i := 26) rfl) rfl
theorem m7_27 : Cond.lays "HomeSystem$TextProcess" "HomeSystem$AnyProcess" "second" "I" ∈ AL := AL_7 (List.mem_of_getElem? (i := 27) rfl) rfl
theorem m11_89 : Cond.lays "HomeSystemModel" "HomeSystemModel" "thrown" "I" ∈ AL := AL_11 (List.mem_of_getElem? (i := 89) rfl) rfl
theorem m11_91 : Cond.laysFinal "HomeSystemModel" "HomeSystemModel" "tape" "[B" ∈ AL := AL_11 (List.mem_of_getElem? (i := 91) rfl) rfl
theorem m11_93 : Cond.lays "HomeSystemModel" "HomeSystemModel" "taped" "I" ∈ AL := AL_11 (List.mem_of_getElem? (i := 93) rfl) rfl
theorem m11_95 : Cond.lays "HomeSystemModel" "HomeSystemModel" "place" "I" ∈ AL := AL_11 (List.mem_of_getElem? (i := 95) rfl) rfl
theorem m11_97 : Cond.laysFinal "HomeSystemModel" "HomeSystemModel" "programs" "[LHomeSystemModel$Program;" ∈ AL := AL_11 (List.mem_of_getElem? (i := 97) rfl) rfl
theorem m11_99 : Cond.laysFinal "HomeSystemModel" "HomeSystemModel" "processes" "[LHomeSystemModel$Process;" ∈ AL := AL_11 (List.mem_of_getElem? (i := 99) rfl) rfl
theorem m11_101 : Cond.laysFinal "HomeSystemModel" "HomeSystemModel" "disk" "[I" ∈ AL := AL_11 (List.mem_of_getElem? (i := 101) rfl) rfl
theorem m11_103 : Cond.lays "HomeSystemModel" "HomeSystemModel" "workOfAll" "I" ∈ AL := AL_11 (List.mem_of_getElem? (i := 103) rfl) rfl
theorem m11_105 : Cond.lays "HomeSystemModel" "HomeSystemModel" "stackOfAll" "I" ∈ AL := AL_11 (List.mem_of_getElem? (i := 105) rfl) rfl
theorem m11_107 : Cond.lays "HomeSystemModel" "HomeSystemModel" "given" "I" ∈ AL := AL_11 (List.mem_of_getElem? (i := 107) rfl) rfl
theorem m11_109 : Cond.lays "HomeSystemModel" "HomeSystemModel" "life" "I" ∈ AL := AL_11 (List.mem_of_getElem? (i := 109) rfl) rfl
theorem m10_74 : Cond.laysFinal "HomeSystemModel$Program" "HomeSystemModel$Program" "keywords" "[Ljava/lang/String;" ∈ AL := AL_10 (List.mem_of_getElem? (i := 74) rfl) rfl
theorem m10_76 : Cond.laysFinal "HomeSystemModel$Program" "HomeSystemModel$Program" "marks" "[Ljava/lang/String;" ∈ AL := AL_10 (List.mem_of_getElem? (i := 76) rfl) rfl
theorem m10_78 : Cond.laysFinal "HomeSystemModel$Program" "HomeSystemModel$Program" "ownNames" "[Ljava/lang/String;" ∈ AL := AL_10 (List.mem_of_getElem? (i := 78) rfl) rfl
theorem m10_80 : Cond.laysFinal "HomeSystemModel$Program" "HomeSystemModel$Program" "ownTakes" "[Ljava/lang/String;" ∈ AL := AL_10 (List.mem_of_getElem? (i := 80) rfl) rfl
theorem m10_82 : Cond.laysFinal "HomeSystemModel$Program" "HomeSystemModel$Program" "text" "[B" ∈ AL := AL_10 (List.mem_of_getElem? (i := 82) rfl) rfl
theorem m10_84 : Cond.lays "HomeSystemModel$Program" "HomeSystemModel$Program" "length" "I" ∈ AL := AL_10 (List.mem_of_getElem? (i := 84) rfl) rfl
theorem m10_86 : Cond.lays "HomeSystemModel$Program" "HomeSystemModel$Program" "count" "I" ∈ AL := AL_10 (List.mem_of_getElem? (i := 86) rfl) rfl
theorem m10_88 : Cond.laysFinal "HomeSystemModel$Program" "HomeSystemModel$Program" "starts" "[I" ∈ AL := AL_10 (List.mem_of_getElem? (i := 88) rfl) rfl
theorem m10_90 : Cond.laysFinal "HomeSystemModel$Program" "HomeSystemModel$Program" "sizes" "[I" ∈ AL := AL_10 (List.mem_of_getElem? (i := 90) rfl) rfl
theorem m10_92 : Cond.laysFinal "HomeSystemModel$Program" "HomeSystemModel$Program" "sorts" "[B" ∈ AL := AL_10 (List.mem_of_getElem? (i := 92) rfl) rfl
theorem m10_94 : Cond.laysFinal "HomeSystemModel$Program" "HomeSystemModel$Program" "which" "[I" ∈ AL := AL_10 (List.mem_of_getElem? (i := 94) rfl) rfl
theorem m10_96 : Cond.lays "HomeSystemModel$Program" "HomeSystemModel$Program" "at" "I" ∈ AL := AL_10 (List.mem_of_getElem? (i := 96) rfl) rfl
theorem m10_98 : Cond.lays "HomeSystemModel$Program" "HomeSystemModel$Program" "open" "I" ∈ AL := AL_10 (List.mem_of_getElem? (i := 98) rfl) rfl
theorem m10_100 : Cond.lays "HomeSystemModel$Program" "HomeSystemModel$Program" "nodes" "I" ∈ AL := AL_10 (List.mem_of_getElem? (i := 100) rfl) rfl
theorem m10_102 : Cond.laysFinal "HomeSystemModel$Program" "HomeSystemModel$Program" "kinds" "[B" ∈ AL := AL_10 (List.mem_of_getElem? (i := 102) rfl) rfl
theorem m10_104 : Cond.laysFinal "HomeSystemModel$Program" "HomeSystemModel$Program" "tokens" "[I" ∈ AL := AL_10 (List.mem_of_getElem? (i := 104) rfl) rfl
theorem m10_106 : Cond.laysFinal "HomeSystemModel$Program" "HomeSystemModel$Program" "firsts" "[I" ∈ AL := AL_10 (List.mem_of_getElem? (i := 106) rfl) rfl
theorem m10_108 : Cond.laysFinal "HomeSystemModel$Program" "HomeSystemModel$Program" "kidA" "[I" ∈ AL := AL_10 (List.mem_of_getElem? (i := 108) rfl) rfl
theorem m10_110 : Cond.laysFinal "HomeSystemModel$Program" "HomeSystemModel$Program" "kidB" "[I" ∈ AL := AL_10 (List.mem_of_getElem? (i := 110) rfl) rfl
theorem m10_112 : Cond.laysFinal "HomeSystemModel$Program" "HomeSystemModel$Program" "kidC" "[I" ∈ AL := AL_10 (List.mem_of_getElem? (i := 112) rfl) rfl
theorem m10_114 : Cond.laysFinal "HomeSystemModel$Program" "HomeSystemModel$Program" "kidD" "[I" ∈ AL := AL_10 (List.mem_of_getElem? (i := 114) rfl) rfl
theorem m10_116 : Cond.laysFinal "HomeSystemModel$Program" "HomeSystemModel$Program" "nexts" "[I" ∈ AL := AL_10 (List.mem_of_getElem? (i := 116) rfl) rfl
theorem m10_118 : Cond.laysFinal "HomeSystemModel$Program" "HomeSystemModel$Program" "ops" "[I" ∈ AL := AL_10 (List.mem_of_getElem? (i := 118) rfl) rfl
theorem m10_120 : Cond.laysFinal "HomeSystemModel$Program" "HomeSystemModel$Program" "depths" "[I" ∈ AL := AL_10 (List.mem_of_getElem? (i := 120) rfl) rfl
theorem m10_122 : Cond.lays "HomeSystemModel$Program" "HomeSystemModel$Program" "program" "I" ∈ AL := AL_10 (List.mem_of_getElem? (i := 122) rfl) rfl
theorem m10_124 : Cond.lays "HomeSystemModel$Program" "HomeSystemModel$Program" "programEnd" "I" ∈ AL := AL_10 (List.mem_of_getElem? (i := 124) rfl) rfl
theorem m10_126 : Cond.lays "HomeSystemModel$Program" "HomeSystemModel$Program" "waiting" "I" ∈ AL := AL_10 (List.mem_of_getElem? (i := 126) rfl) rfl
theorem m10_128 : Cond.laysFinal "HomeSystemModel$Program" "HomeSystemModel$Program" "waitRank" "[I" ∈ AL := AL_10 (List.mem_of_getElem? (i := 128) rfl) rfl
theorem m10_130 : Cond.laysFinal "HomeSystemModel$Program" "HomeSystemModel$Program" "waitToken" "[I" ∈ AL := AL_10 (List.mem_of_getElem? (i := 130) rfl) rfl
theorem m10_132 : Cond.laysFinal "HomeSystemModel$Program" "HomeSystemModel$Program" "waitNode" "[I" ∈ AL := AL_10 (List.mem_of_getElem? (i := 132) rfl) rfl
theorem m10_134 : Cond.lays "HomeSystemModel$Program" "HomeSystemModel$Program" "wrong" "I" ∈ AL := AL_10 (List.mem_of_getElem? (i := 134) rfl) rfl
theorem m10_136 : Cond.lays "HomeSystemModel$Program" "HomeSystemModel$Program" "wrongToken" "I" ∈ AL := AL_10 (List.mem_of_getElem? (i := 136) rfl) rfl
theorem m10_138 : Cond.lays "HomeSystemModel$Program" "HomeSystemModel$Program" "where" "I" ∈ AL := AL_10 (List.mem_of_getElem? (i := 138) rfl) rfl
theorem m10_140 : Cond.lays "HomeSystemModel$Program" "HomeSystemModel$Program" "known" "I" ∈ AL := AL_10 (List.mem_of_getElem? (i := 140) rfl) rfl
theorem m10_142 : Cond.laysFinal "HomeSystemModel$Program" "HomeSystemModel$Program" "knownToken" "[I" ∈ AL := AL_10 (List.mem_of_getElem? (i := 142) rfl) rfl
theorem m10_144 : Cond.laysFinal "HomeSystemModel$Program" "HomeSystemModel$Program" "knownWhat" "[I" ∈ AL := AL_10 (List.mem_of_getElem? (i := 144) rfl) rfl
theorem m10_146 : Cond.laysFinal "HomeSystemModel$Program" "HomeSystemModel$Program" "knownValue" "[I" ∈ AL := AL_10 (List.mem_of_getElem? (i := 146) rfl) rfl
theorem m10_148 : Cond.lays "HomeSystemModel$Program" "HomeSystemModel$Program" "scope" "I" ∈ AL := AL_10 (List.mem_of_getElem? (i := 148) rfl) rfl
theorem m10_150 : Cond.lays "HomeSystemModel$Program" "HomeSystemModel$Program" "functionCount" "I" ∈ AL := AL_10 (List.mem_of_getElem? (i := 150) rfl) rfl
theorem m10_152 : Cond.laysFinal "HomeSystemModel$Program" "HomeSystemModel$Program" "functionNode" "[I" ∈ AL := AL_10 (List.mem_of_getElem? (i := 152) rfl) rfl
theorem m10_154 : Cond.laysFinal "HomeSystemModel$Program" "HomeSystemModel$Program" "frames" "[I" ∈ AL := AL_10 (List.mem_of_getElem? (i := 154) rfl) rfl
theorem m10_156 : Cond.lays "HomeSystemModel$Program" "HomeSystemModel$Program" "textWords" "I" ∈ AL := AL_10 (List.mem_of_getElem? (i := 156) rfl) rfl
theorem m10_158 : Cond.lays "HomeSystemModel$Program" "HomeSystemModel$Program" "frame" "I" ∈ AL := AL_10 (List.mem_of_getElem? (i := 158) rfl) rfl
theorem m10_160 : Cond.lays "HomeSystemModel$Program" "HomeSystemModel$Program" "inFunction" "I" ∈ AL := AL_10 (List.mem_of_getElem? (i := 160) rfl) rfl
theorem m10_162 : Cond.lays "HomeSystemModel$Program" "HomeSystemModel$Program" "loops" "I" ∈ AL := AL_10 (List.mem_of_getElem? (i := 162) rfl) rfl
theorem m10_164 : Cond.lays "HomeSystemModel$Program" "HomeSystemModel$Program" "switches" "I" ∈ AL := AL_10 (List.mem_of_getElem? (i := 164) rfl) rfl
theorem m10_166 : Cond.lays "HomeSystemModel$Program" "HomeSystemModel$Program" "badK" "Z" ∈ AL := AL_10 (List.mem_of_getElem? (i := 166) rfl) rfl
theorem m10_168 : Cond.lays "HomeSystemModel$Program" "HomeSystemModel$Program" "openK" "Z" ∈ AL := AL_10 (List.mem_of_getElem? (i := 168) rfl) rfl
theorem m10_170 : Cond.lays "HomeSystemModel$Program" "HomeSystemModel$Program" "symbols" "I" ∈ AL := AL_10 (List.mem_of_getElem? (i := 170) rfl) rfl
theorem m10_172 : Cond.laysFinal "HomeSystemModel$Program" "HomeSystemModel$Program" "symbolSort" "[B" ∈ AL := AL_10 (List.mem_of_getElem? (i := 172) rfl) rfl
theorem m10_174 : Cond.laysFinal "HomeSystemModel$Program" "HomeSystemModel$Program" "symbolOfText" "[Z" ∈ AL := AL_10 (List.mem_of_getElem? (i := 174) rfl) rfl
theorem m10_176 : Cond.laysFinal "HomeSystemModel$Program" "HomeSystemModel$Program" "symbolAt" "[I" ∈ AL := AL_10 (List.mem_of_getElem? (i := 176) rfl) rfl
theorem m10_178 : Cond.laysFinal "HomeSystemModel$Program" "HomeSystemModel$Program" "symbolSize" "[I" ∈ AL := AL_10 (List.mem_of_getElem? (i := 178) rfl) rfl
theorem m10_180 : Cond.laysFinal "HomeSystemModel$Program" "HomeSystemModel$Program" "knownSymbol" "[I" ∈ AL := AL_10 (List.mem_of_getElem? (i := 180) rfl) rfl
theorem m10_182 : Cond.lays "HomeSystemModel$Program" "HomeSystemModel$Program" "cellsNow" "I" ∈ AL := AL_10 (List.mem_of_getElem? (i := 182) rfl) rfl
theorem m10_184 : Cond.lays "HomeSystemModel$Program" "HomeSystemModel$Program" "textCells" "I" ∈ AL := AL_10 (List.mem_of_getElem? (i := 184) rfl) rfl
theorem m10_186 : Cond.laysFinal "HomeSystemModel$Program" "HomeSystemModel$Program" "frameCells" "[I" ∈ AL := AL_10 (List.mem_of_getElem? (i := 186) rfl) rfl
theorem m10_188 : Cond.lays "HomeSystemModel$Program" "HomeSystemModel$Program" "result" "I" ∈ AL := AL_10 (List.mem_of_getElem? (i := 188) rfl) rfl
theorem m10_190 : Cond.lays "HomeSystemModel$Program" "HomeSystemModel$Program" "sizeNow" "I" ∈ AL := AL_10 (List.mem_of_getElem? (i := 190) rfl) rfl
theorem m10_192 : Cond.lays "HomeSystemModel$Program" "HomeSystemModel$Program" "tall" "I" ∈ AL := AL_10 (List.mem_of_getElem? (i := 192) rfl) rfl
theorem m10_194 : Cond.lays "HomeSystemModel$Program" "HomeSystemModel$Program" "steps" "I" ∈ AL := AL_10 (List.mem_of_getElem? (i := 194) rfl) rfl
theorem m10_196 : Cond.laysFinal "HomeSystemModel$Program" "HomeSystemModel$Program" "code" "[I" ∈ AL := AL_10 (List.mem_of_getElem? (i := 196) rfl) rfl
theorem m10_198 : Cond.laysFinal "HomeSystemModel$Program" "HomeSystemModel$Program" "entry" "[I" ∈ AL := AL_10 (List.mem_of_getElem? (i := 198) rfl) rfl
theorem m10_200 : Cond.laysFinal "HomeSystemModel$Program" "HomeSystemModel$Program" "parameters" "[I" ∈ AL := AL_10 (List.mem_of_getElem? (i := 200) rfl) rfl
theorem m10_202 : Cond.lays "HomeSystemModel$Program" "HomeSystemModel$Program" "breaks" "I" ∈ AL := AL_10 (List.mem_of_getElem? (i := 202) rfl) rfl
theorem m10_204 : Cond.lays "HomeSystemModel$Program" "HomeSystemModel$Program" "continues" "I" ∈ AL := AL_10 (List.mem_of_getElem? (i := 204) rfl) rfl
theorem m10_206 : Cond.lays "HomeSystemModel$Program" "HomeSystemModel$Program" "sort" "I" ∈ AL := AL_10 (List.mem_of_getElem? (i := 206) rfl) rfl
theorem m10_208 : Cond.laysFinal "HomeSystemModel$Program" "HomeSystemModel$Program" "raw" "[I" ∈ AL := AL_10 (List.mem_of_getElem? (i := 208) rfl) rfl
theorem m10_210 : Cond.lays "HomeSystemModel$Program" "HomeSystemModel$Program" "rawWords" "I" ∈ AL := AL_10 (List.mem_of_getElem? (i := 210) rfl) rfl
theorem m11_25 : Cond.lays "HomeSystemModel$Process" "HomeSystemModel$Process" "program" "LHomeSystemModel$Program;" ∈ AL := AL_11 (List.mem_of_getElem? (i := 25) rfl) rfl
theorem m11_27 : Cond.lays "HomeSystemModel$Process" "HomeSystemModel$Process" "begun" "Z" ∈ AL := AL_11 (List.mem_of_getElem? (i := 27) rfl) rfl
theorem m11_29 : Cond.lays "HomeSystemModel$Process" "HomeSystemModel$Process" "outcome" "I" ∈ AL := AL_11 (List.mem_of_getElem? (i := 29) rfl) rfl
theorem m11_31 : Cond.lays "HomeSystemModel$Process" "HomeSystemModel$Process" "value" "I" ∈ AL := AL_11 (List.mem_of_getElem? (i := 31) rfl) rfl
theorem m11_33 : Cond.lays "HomeSystemModel$Process" "HomeSystemModel$Process" "work" "I" ∈ AL := AL_11 (List.mem_of_getElem? (i := 33) rfl) rfl
theorem m11_35 : Cond.lays "HomeSystemModel$Process" "HomeSystemModel$Process" "stack" "I" ∈ AL := AL_11 (List.mem_of_getElem? (i := 35) rfl) rfl
theorem m11_37 : Cond.lays "HomeSystemModel$Process" "HomeSystemModel$Process" "children" "I" ∈ AL := AL_11 (List.mem_of_getElem? (i := 37) rfl) rfl
theorem m11_39 : Cond.lays "HomeSystemModel$Process" "HomeSystemModel$Process" "paid" "Z" ∈ AL := AL_11 (List.mem_of_getElem? (i := 39) rfl) rfl
theorem m11_41 : Cond.laysFinal "HomeSystemModel$Process" "HomeSystemModel$Process" "cells" "[I" ∈ AL := AL_11 (List.mem_of_getElem? (i := 41) rfl) rfl
theorem m11_43 : Cond.laysFinal "HomeSystemModel$Process" "HomeSystemModel$Process" "numbers" "[I" ∈ AL := AL_11 (List.mem_of_getElem? (i := 43) rfl) rfl
theorem m11_45 : Cond.lays "HomeSystemModel$Process" "HomeSystemModel$Process" "found" "I" ∈ AL := AL_11 (List.mem_of_getElem? (i := 45) rfl) rfl
theorem m11_47 : Cond.lays "HomeSystemModel$Process" "HomeSystemModel$Process" "at" "I" ∈ AL := AL_11 (List.mem_of_getElem? (i := 47) rfl) rfl
theorem m11_49 : Cond.lays "HomeSystemModel$Process" "HomeSystemModel$Process" "base" "I" ∈ AL := AL_11 (List.mem_of_getElem? (i := 49) rfl) rfl
theorem m11_51 : Cond.lays "HomeSystemModel$Process" "HomeSystemModel$Process" "top" "I" ∈ AL := AL_11 (List.mem_of_getElem? (i := 51) rfl) rfl
theorem m11_53 : Cond.lays "HomeSystemModel$Process" "HomeSystemModel$Process" "calls" "I" ∈ AL := AL_11 (List.mem_of_getElem? (i := 53) rfl) rfl
theorem m11_55 : Cond.laysFinal "HomeSystemModel$Process" "HomeSystemModel$Process" "callAt" "[I" ∈ AL := AL_11 (List.mem_of_getElem? (i := 55) rfl) rfl
theorem m11_57 : Cond.laysFinal "HomeSystemModel$Process" "HomeSystemModel$Process" "callBase" "[I" ∈ AL := AL_11 (List.mem_of_getElem? (i := 57) rfl) rfl
theorem m11_59 : Cond.laysFinal "HomeSystemModel$Process" "HomeSystemModel$Process" "callTop" "[I" ∈ AL := AL_11 (List.mem_of_getElem? (i := 59) rfl) rfl
theorem m11_61 : Cond.laysFinal "HomeSystemModel$Process" "HomeSystemModel$Process" "callOf" "[I" ∈ AL := AL_11 (List.mem_of_getElem? (i := 61) rfl) rfl
theorem m11_63 : Cond.laysFinal "HomeSystemModel$Process" "HomeSystemModel$Process" "registers" "[I" ∈ AL := AL_11 (List.mem_of_getElem? (i := 63) rfl) rfl
theorem m11_65 : Cond.laysFinal "HomeSystemModel$Process" "HomeSystemModel$Process" "up" "[I" ∈ AL := AL_11 (List.mem_of_getElem? (i := 65) rfl) rfl
theorem m11_67 : Cond.lays "HomeSystemModel$Process" "HomeSystemModel$Process" "ups" "I" ∈ AL := AL_11 (List.mem_of_getElem? (i := 67) rfl) rfl
theorem m11_69 : Cond.laysFinal "HomeSystemModel$Process" "HomeSystemModel$Process" "down" "[I" ∈ AL := AL_11 (List.mem_of_getElem? (i := 69) rfl) rfl
theorem m11_71 : Cond.lays "HomeSystemModel$Process" "HomeSystemModel$Process" "downs" "I" ∈ AL := AL_11 (List.mem_of_getElem? (i := 71) rfl) rfl
theorem m11_73 : Cond.lays "HomeSystemModel$Process" "HomeSystemModel$Process" "written" "I" ∈ AL := AL_11 (List.mem_of_getElem? (i := 73) rfl) rfl
theorem m11_75 : Cond.laysFinal "HomeSystemModel$Process" "HomeSystemModel$Process" "papers" "[I" ∈ AL := AL_11 (List.mem_of_getElem? (i := 75) rfl) rfl
theorem m1_193 : Cond.lays "java/util/ArrayList" "java/util/ArrayList" "elementData" "[Ljava/lang/Object;" ∈ AL := AL_1 (List.mem_of_getElem? (i := 193) rfl) rfl
theorem m1_195 : Cond.lays "java/util/ArrayList" "java/util/ArrayList" "size" "I" ∈ AL := AL_1 (List.mem_of_getElem? (i := 195) rfl) rfl
theorem m1_197 : Cond.lays "java/util/ArrayList" "java/util/AbstractList" "modCount" "I" ∈ AL := AL_1 (List.mem_of_getElem? (i := 197) rfl) rfl
theorem k_Hs : px_cls 0 R_Hs F_Hs 6 t_Hs := ⟨rfl, t_Hs_ok, n_Hs, fun w h => by
  obtain ⟨k, hk, rfl⟩ := List.mem_map.mp h
  have hk := List.mem_range.mp hk
  match k, hk with
  | 0, _ => exact m3_18
  | 1, _ => exact m3_20
  | 2, _ => exact m3_22
  | 3, _ => exact m3_24
  | 4, _ => exact m3_26
  | 5, _ => exact m3_28
  | k + 6, hk => exact absurd hk (by omega)⟩
theorem k_Tok : px_cls 1 R_Tok F_Tok 19 t_Tok := ⟨rfl, t_Tok_ok, n_Tok, fun w h => by
  obtain ⟨k, hk, rfl⟩ := List.mem_map.mp h
  have hk := List.mem_range.mp hk
  match k, hk with
  | 0, _ => exact m1_126
  | 1, _ => exact m1_128
  | 2, _ => exact m1_130
  | 3, _ => exact m1_132
  | 4, _ => exact m1_134
  | 5, _ => exact m1_136
  | 6, _ => exact m1_138
  | 7, _ => exact m1_140
  | 8, _ => exact m1_142
  | 9, _ => exact m1_144
  | 10, _ => exact m1_146
  | 11, _ => exact m1_148
  | 12, _ => exact m1_150
  | 13, _ => exact m1_152
  | 14, _ => exact m1_154
  | 15, _ => exact m1_156
  | 16, _ => exact m1_158
  | 17, _ => exact m1_160
  | 18, _ => exact m1_162
  | k + 19, hk => exact absurd hk (by omega)⟩
theorem k_Nam : px_cls 2 R_Nam F_Nam 5 t_Nam := ⟨rfl, t_Nam_ok, n_Nam, fun w h => by
  obtain ⟨k, hk, rfl⟩ := List.mem_map.mp h
  have hk := List.mem_range.mp hk
  match k, hk with
  | 0, _ => exact m2_80
  | 1, _ => exact m2_82
  | 2, _ => exact m2_84
  | 3, _ => exact m2_86
  | 4, _ => exact m2_88
  | k + 5, hk => exact absurd hk (by omega)⟩
theorem k_Sym : px_cls 3 R_Sym F_Sym 7 t_Sym := ⟨rfl, t_Sym_ok, n_Sym, fun w h => by
  obtain ⟨k, hk, rfl⟩ := List.mem_map.mp h
  have hk := List.mem_range.mp hk
  match k, hk with
  | 0, _ => exact m1_227
  | 1, _ => exact m1_229
  | 2, _ => exact m1_231
  | 3, _ => exact m1_233
  | 4, _ => exact m1_235
  | 5, _ => exact m1_237
  | 6, _ => exact m1_239
  | k + 7, hk => exact absurd hk (by omega)⟩
theorem k_Prg : px_cls 4 R_Prg F_Prg 6 t_Prg := ⟨rfl, t_Prg_ok, n_Prg, fun w h => by
  obtain ⟨k, hk, rfl⟩ := List.mem_map.mp h
  have hk := List.mem_range.mp hk
  match k, hk with
  | 0, _ => exact m2_112
  | 1, _ => exact m2_114
  | 2, _ => exact m2_116
  | 3, _ => exact m2_118
  | 4, _ => exact m2_120
  | 5, _ => exact m2_122
  | k + 6, hk => exact absurd hk (by omega)⟩
theorem k_Exp : px_cls 5 R_Exp F_Exp 3 t_Exp := ⟨rfl, t_Exp_ok, n_Exp, fun w h => by
  obtain ⟨k, hk, rfl⟩ := List.mem_map.mp h
  have hk := List.mem_range.mp hk
  match k, hk with
  | 0, _ => exact m2_134
  | 1, _ => exact m2_136
  | 2, _ => exact m2_138
  | k + 3, hk => exact absurd hk (by omega)⟩
theorem k_Cmp : px_cls 6 R_Cmp F_Cmp 18 t_Cmp := ⟨rfl, t_Cmp_ok, n_Cmp, fun w h => by
  obtain ⟨k, hk, rfl⟩ := List.mem_map.mp h
  have hk := List.mem_range.mp hk
  match k, hk with
  | 0, _ => exact m2_167
  | 1, _ => exact m2_169
  | 2, _ => exact m2_171
  | 3, _ => exact m2_173
  | 4, _ => exact m2_175
  | 5, _ => exact m2_177
  | 6, _ => exact m2_179
  | 7, _ => exact m2_181
  | 8, _ => exact m2_183
  | 9, _ => exact m2_185
  | 10, _ => exact m2_187
  | 11, _ => exact m2_189
  | 12, _ => exact m2_191
  | 13, _ => exact m2_193
  | 14, _ => exact m2_195
  | 15, _ => exact m2_197
  | 16, _ => exact m2_199
  | 17, _ => exact m2_201
  | k + 18, hk => exact absurd hk (by omega)⟩
theorem k_Ker : px_cls 7 R_Ker F_Ker 10 t_Ker := ⟨rfl, t_Ker_ok, n_Ker, fun w h => by
  obtain ⟨k, hk, rfl⟩ := List.mem_map.mp h
  have hk := List.mem_range.mp hk
  match k, hk with
  | 0, _ => exact m2_231
  | 1, _ => exact m2_233
  | 2, _ => exact m2_235
  | 3, _ => exact m2_237
  | 4, _ => exact m2_239
  | 5, _ => exact m3_1
  | 6, _ => exact m3_3
  | 7, _ => exact m3_5
  | 8, _ => exact m3_7
  | 9, _ => exact m3_9
  | k + 10, hk => exact absurd hk (by omega)⟩
theorem k_Opd : px_cls 8 R_Opd F_Opd 9 t_Opd := ⟨rfl, t_Opd_ok, n_Opd, fun w h => by
  obtain ⟨k, hk, rfl⟩ := List.mem_map.mp h
  have hk := List.mem_range.mp hk
  match k, hk with
  | 0, _ => exact m4_236
  | 1, _ => exact m4_238
  | 2, _ => exact m5_0
  | 3, _ => exact m5_2
  | 4, _ => exact m5_4
  | 5, _ => exact m5_6
  | 6, _ => exact m5_8
  | 7, _ => exact m5_10
  | 8, _ => exact m5_12
  | k + 9, hk => exact absurd hk (by omega)⟩
theorem k_Raw : px_cls 9 R_Raw F_Raw 18 t_Raw := ⟨rfl, t_Raw_ok, n_Raw, fun w h => by
  obtain ⟨k, hk, rfl⟩ := List.mem_map.mp h
  have hk := List.mem_range.mp hk
  match k, hk with
  | 0, _ => exact m6_171
  | 1, _ => exact m6_173
  | 2, _ => exact m6_175
  | 3, _ => exact m6_177
  | 4, _ => exact m6_179
  | 5, _ => exact m6_181
  | 6, _ => exact m6_183
  | 7, _ => exact m6_185
  | 8, _ => exact m6_187
  | 9, _ => exact m6_189
  | 10, _ => exact m6_191
  | 11, _ => exact m6_193
  | 12, _ => exact m6_195
  | 13, _ => exact m6_197
  | 14, _ => exact m6_199
  | 15, _ => exact m6_201
  | 16, _ => exact m6_203
  | 17, _ => exact m6_205
  | k + 18, hk => exact absurd hk (by omega)⟩
theorem k_Txp : px_cls 10 R_Txp F_Txp 25 t_Txp := ⟨rfl, t_Txp_ok, n_Txp, fun w h => by
  obtain ⟨k, hk, rfl⟩ := List.mem_map.mp h
  have hk := List.mem_range.mp hk
  match k, hk with
  | 0, _ => exact m6_228
  | 1, _ => exact m6_230
  | 2, _ => exact m6_232
  | 3, _ => exact m6_234
  | 4, _ => exact m6_236
  | 5, _ => exact m6_238
  | 6, _ => exact m7_0
  | 7, _ => exact m7_2
  | 8, _ => exact m7_4
  | 9, _ => exact m7_6
  | 10, _ => exact m7_8
  | 11, _ => exact m7_10
  | 12, _ => exact m7_12
  | 13, _ => exact m7_14
  | 14, _ => exact m7_16
  | 15, _ => exact m7_18
  | 16, _ => exact m7_19
  | 17, _ => exact m7_20
  | 18, _ => exact m7_21
  | 19, _ => exact m7_22
  | 20, _ => exact m7_23
  | 21, _ => exact m7_24
  | 22, _ => exact m7_25
  | 23, _ => exact m7_26
  | 24, _ => exact m7_27
  | k + 25, hk => exact absurd hk (by omega)⟩
theorem k_Mo : px_cls 11 R_Mo F_Mo 11 t_Mo := ⟨rfl, t_Mo_ok, n_Mo, fun w h => by
  obtain ⟨k, hk, rfl⟩ := List.mem_map.mp h
  have hk := List.mem_range.mp hk
  match k, hk with
  | 0, _ => exact m11_89
  | 1, _ => exact m11_91
  | 2, _ => exact m11_93
  | 3, _ => exact m11_95
  | 4, _ => exact m11_97
  | 5, _ => exact m11_99
  | 6, _ => exact m11_101
  | 7, _ => exact m11_103
  | 8, _ => exact m11_105
  | 9, _ => exact m11_107
  | 10, _ => exact m11_109
  | k + 11, hk => exact absurd hk (by omega)⟩
theorem k_Mpg : px_cls 12 R_Mpg F_Mpg 69 t_Mpg := ⟨rfl, t_Mpg_ok, n_Mpg, fun w h => by
  obtain ⟨k, hk, rfl⟩ := List.mem_map.mp h
  have hk := List.mem_range.mp hk
  match k, hk with
  | 0, _ => exact m10_74
  | 1, _ => exact m10_76
  | 2, _ => exact m10_78
  | 3, _ => exact m10_80
  | 4, _ => exact m10_82
  | 5, _ => exact m10_84
  | 6, _ => exact m10_86
  | 7, _ => exact m10_88
  | 8, _ => exact m10_90
  | 9, _ => exact m10_92
  | 10, _ => exact m10_94
  | 11, _ => exact m10_96
  | 12, _ => exact m10_98
  | 13, _ => exact m10_100
  | 14, _ => exact m10_102
  | 15, _ => exact m10_104
  | 16, _ => exact m10_106
  | 17, _ => exact m10_108
  | 18, _ => exact m10_110
  | 19, _ => exact m10_112
  | 20, _ => exact m10_114
  | 21, _ => exact m10_116
  | 22, _ => exact m10_118
  | 23, _ => exact m10_120
  | 24, _ => exact m10_122
  | 25, _ => exact m10_124
  | 26, _ => exact m10_126
  | 27, _ => exact m10_128
  | 28, _ => exact m10_130
  | 29, _ => exact m10_132
  | 30, _ => exact m10_134
  | 31, _ => exact m10_136
  | 32, _ => exact m10_138
  | 33, _ => exact m10_140
  | 34, _ => exact m10_142
  | 35, _ => exact m10_144
  | 36, _ => exact m10_146
  | 37, _ => exact m10_148
  | 38, _ => exact m10_150
  | 39, _ => exact m10_152
  | 40, _ => exact m10_154
  | 41, _ => exact m10_156
  | 42, _ => exact m10_158
  | 43, _ => exact m10_160
  | 44, _ => exact m10_162
  | 45, _ => exact m10_164
  | 46, _ => exact m10_166
  | 47, _ => exact m10_168
  | 48, _ => exact m10_170
  | 49, _ => exact m10_172
  | 50, _ => exact m10_174
  | 51, _ => exact m10_176
  | 52, _ => exact m10_178
  | 53, _ => exact m10_180
  | 54, _ => exact m10_182
  | 55, _ => exact m10_184
  | 56, _ => exact m10_186
  | 57, _ => exact m10_188
  | 58, _ => exact m10_190
  | 59, _ => exact m10_192
  | 60, _ => exact m10_194
  | 61, _ => exact m10_196
  | 62, _ => exact m10_198
  | 63, _ => exact m10_200
  | 64, _ => exact m10_202
  | 65, _ => exact m10_204
  | 66, _ => exact m10_206
  | 67, _ => exact m10_208
  | 68, _ => exact m10_210
  | k + 69, hk => exact absurd hk (by omega)⟩
theorem k_Mpr : px_cls 13 R_Mpr F_Mpr 26 t_Mpr := ⟨rfl, t_Mpr_ok, n_Mpr, fun w h => by
  obtain ⟨k, hk, rfl⟩ := List.mem_map.mp h
  have hk := List.mem_range.mp hk
  match k, hk with
  | 0, _ => exact m11_25
  | 1, _ => exact m11_27
  | 2, _ => exact m11_29
  | 3, _ => exact m11_31
  | 4, _ => exact m11_33
  | 5, _ => exact m11_35
  | 6, _ => exact m11_37
  | 7, _ => exact m11_39
  | 8, _ => exact m11_41
  | 9, _ => exact m11_43
  | 10, _ => exact m11_45
  | 11, _ => exact m11_47
  | 12, _ => exact m11_49
  | 13, _ => exact m11_51
  | 14, _ => exact m11_53
  | 15, _ => exact m11_55
  | 16, _ => exact m11_57
  | 17, _ => exact m11_59
  | 18, _ => exact m11_61
  | 19, _ => exact m11_63
  | 20, _ => exact m11_65
  | 21, _ => exact m11_67
  | 22, _ => exact m11_69
  | 23, _ => exact m11_71
  | 24, _ => exact m11_73
  | 25, _ => exact m11_75
  | k + 26, hk => exact absurd hk (by omega)⟩
theorem k_Lst : px_cls 14 R_Lst F_Lst 3 t_Lst := ⟨rfl, t_Lst_ok, n_Lst, fun w h => by
  obtain ⟨k, hk, rfl⟩ := List.mem_map.mp h
  have hk := List.mem_range.mp hk
  match k, hk with
  | 0, _ => exact m1_193
  | 1, _ => exact m1_195
  | 2, _ => exact m1_197
  | k + 3, hk => exact absurd hk (by omega)⟩
def wd_Hs (cs : Nat → ClassId) (h : Nat) (r : Nat → Nat) (o : Nat → Option Nat) (f : Nat → Int32) (a : Nat → Nat → Int32) (g : Nat → Nat → Option Nat) : va_W := [(h, .inr (0, [.ref (r 0), .ref (r 1), .ref (r 2), .int (f 3), .int (f 4), .int (f 5)])), (r 0, .inl (cs 1, 2048, .inl (a 0)))]
def wd_Tok (cs : Nat → ClassId) (h : Nat) (r : Nat → Nat) (o : Nat → Option Nat) (f : Nat → Int32) (a : Nat → Nat → Int32) (g : Nat → Nat → Option Nat) : va_W := [(h, .inr (1, [.ref (r 0), .ref (r 1), .ref (r 2), .ref (r 3), .ref (r 4), .ref (r 5), va_rf (o 6), .int (f 7), .int (f 8), .int (f 9), .int (f 10), .int (f 11), .int (f 12), .int (f 13), .int (f 14), .int (f 15), .int (f 16), .int (f 17), .int (f 18)])), (r 0, .inl (cs 0, 2049, .inl (a 0))), (r 1, .inl (cs 0, 2049, .inl (a 1))), (r 2, .inl (cs 0, 2049, .inl (a 2))), (r 3, .inl (cs 2, 2181, .inl (a 3))), (r 4, .inl (cs 0, 2074, .inl (a 4))), (r 5, .inl (cs 0, 2048, .inl (a 5)))]
def wd_Nam (cs : Nat → ClassId) (h : Nat) (r : Nat → Nat) (o : Nat → Option Nat) (f : Nat → Int32) (a : Nat → Nat → Int32) (g : Nat → Nat → Option Nat) : va_W := [(h, .inr (2, [.ref (r 0), .ref (r 1), .ref (r 2), .int (f 3), .int (f 4)])), (r 2, .inl (cs 0, 2048, .inl (a 2)))]
def wd_Sym (cs : Nat → ClassId) (h : Nat) (r : Nat → Nat) (o : Nat → Option Nat) (f : Nat → Int32) (a : Nat → Nat → Int32) (g : Nat → Nat → Option Nat) : va_W := [(h, .inr (3, [.int (f 0), .int (f 1), .int (f 2), .int (f 3), .int (f 4), .int (f 5), .int (f 6)]))]
def wd_Exp (cs : Nat → ClassId) (h : Nat) (r : Nat → Nat) (o : Nat → Option Nat) (f : Nat → Int32) (a : Nat → Nat → Int32) (g : Nat → Nat → Option Nat) : va_W := [(h, .inr (5, [.ref (r 0), .ref (r 1), .ref (r 2)]))]
def wd_Cmp (cs : Nat → ClassId) (h : Nat) (r : Nat → Nat) (o : Nat → Option Nat) (f : Nat → Int32) (a : Nat → Nat → Int32) (g : Nat → Nat → Option Nat) : va_W := [(h, .inr (6, [.ref (r 0), .ref (r 1), .ref (r 2), .ref (r 3), .ref (r 4), .ref (r 5), .ref (r 6), .int (f 7), .int (f 8), va_rf (o 9), .int (f 10), .int (f 11), .int (f 12), .int (f 13), .int (f 14), .int (f 15), .int (f 16), .int (f 17)])), (r 5, .inl (cs 0, 2048, .inl (a 5))), (r 6, .inl (cs 0, 2048, .inl (a 6)))]
def wd_Ker (cs : Nat → ClassId) (h : Nat) (r : Nat → Nat) (o : Nat → Option Nat) (f : Nat → Int32) (a : Nat → Nat → Int32) (g : Nat → Nat → Option Nat) : va_W := [(h, .inr (7, [.ref (r 0), .ref (r 1), .ref (r 2), .ref (r 3), .ref (r 4), .ref (r 5), .ref (r 6), .ref (r 7), .int (f 8), .int (f 9)])), (r 0, .inl (cs 5, 8, .inr (.inr (.inr (.inr (g 0)))))), (r 1, .inl (cs 0, 128, .inl (a 1))), (r 2, .inl (cs 6, 13, .inr (.inr (.inr (.inr (g 2)))))), (r 3, .inl (cs 7, 13, .inr (.inr (.inr (.inr (g 3)))))), (r 4, .inl (cs 8, 13, .inr (.inr (.inr (.inr (g 4)))))), (r 5, .inl (cs 0, 104, .inl (a 5))), (r 6, .inl (cs 0, 26, .inl (a 6))), (r 7, .inl (cs 0, 26, .inl (a 7)))]
def wd_Opd (cs : Nat → ClassId) (h : Nat) (r : Nat → Nat) (o : Nat → Option Nat) (f : Nat → Int32) (a : Nat → Nat → Int32) (g : Nat → Nat → Option Nat) : va_W := [(h, .inr (8, [.int (f 0), .int (f 1), .int (f 2), .int (f 3), va_rf (o 4), .int (f 5), .int (f 6), .int (f 7), .int (f 8)]))]
def wd_Mo (cs : Nat → ClassId) (h : Nat) (r : Nat → Nat) (o : Nat → Option Nat) (f : Nat → Int32) (a : Nat → Nat → Int32) (g : Nat → Nat → Option Nat) : va_W := [(h, .inr (11, [.int (f 0), .ref (r 1), .int (f 2), .int (f 3), .ref (r 4), .ref (r 5), .ref (r 6), .int (f 7), .int (f 8), .int (f 9), .int (f 10)])), (r 1, .inl (cs 1, 2048, .inl (a 1))), (r 4, .inl (cs 9, 8, .inr (.inr (.inr (.inr (g 4)))))), (r 5, .inl (cs 10, 13, .inr (.inr (.inr (.inr (g 5)))))), (r 6, .inl (cs 0, 128, .inl (a 6)))]
def wd_Mpg (cs : Nat → ClassId) (h : Nat) (r : Nat → Nat) (o : Nat → Option Nat) (f : Nat → Int32) (a : Nat → Nat → Int32) (g : Nat → Nat → Option Nat) : va_W := [(h, .inr (12, [.ref (r 0), .ref (r 1), .ref (r 2), .ref (r 3), .ref (r 4), .int (f 5), .int (f 6), .ref (r 7), .ref (r 8), .ref (r 9), .ref (r 10), .int (f 11), .int (f 12), .int (f 13), .ref (r 14), .ref (r 15), .ref (r 16), .ref (r 17), .ref (r 18), .ref (r 19), .ref (r 20), .ref (r 21), .ref (r 22), .ref (r 23), .int (f 24), .int (f 25), .int (f 26), .ref (r 27), .ref (r 28), .ref (r 29), .int (f 30), .int (f 31), .int (f 32), .int (f 33), .ref (r 34), .ref (r 35), .ref (r 36), .int (f 37), .int (f 38), .ref (r 39), .ref (r 40), .int (f 41), .int (f 42), .int (f 43), .int (f 44), .int (f 45), .int (f 46), .int (f 47), .int (f 48), .ref (r 49), .ref (r 50), .ref (r 51), .ref (r 52), .ref (r 53), .int (f 54), .int (f 55), .ref (r 56), .int (f 57), .int (f 58), .int (f 59), .int (f 60), .ref (r 61), .ref (r 62), .ref (r 63), .int (f 64), .int (f 65), .int (f 66), .ref (r 67), .int (f 68)])), (r 0, .inl (cs 11, 15, .inr (.inr (.inr (.inr (g 0)))))), (r 1, .inl (cs 11, 43, .inr (.inr (.inr (.inr (g 1)))))), (r 2, .inl (cs 11, 15, .inr (.inr (.inr (.inr (g 2)))))), (r 3, .inl (cs 11, 15, .inr (.inr (.inr (.inr (g 3)))))), (r 4, .inl (cs 1, 2048, .inl (a 4))), (r 7, .inl (cs 0, 2060, .inl (a 7))), (r 8, .inl (cs 0, 2060, .inl (a 8))), (r 9, .inl (cs 1, 2060, .inl (a 9))), (r 10, .inl (cs 0, 2060, .inl (a 10))), (r 14, .inl (cs 1, 2100, .inl (a 14))), (r 15, .inl (cs 0, 2100, .inl (a 15))), (r 16, .inl (cs 0, 2100, .inl (a 16))), (r 17, .inl (cs 0, 2100, .inl (a 17))), (r 18, .inl (cs 0, 2100, .inl (a 18))), (r 19, .inl (cs 0, 2100, .inl (a 19))), (r 20, .inl (cs 0, 2100, .inl (a 20))), (r 21, .inl (cs 0, 2100, .inl (a 21))), (r 22, .inl (cs 0, 2100, .inl (a 22))), (r 23, .inl (cs 0, 2100, .inl (a 23))), (r 27, .inl (cs 0, 700, .inl (a 27))), (r 28, .inl (cs 0, 700, .inl (a 28))), (r 29, .inl (cs 0, 700, .inl (a 29))), (r 34, .inl (cs 0, 1100, .inl (a 34))), (r 35, .inl (cs 0, 1100, .inl (a 35))), (r 36, .inl (cs 0, 1100, .inl (a 36))), (r 39, .inl (cs 0, 260, .inl (a 39))), (r 40, .inl (cs 0, 260, .inl (a 40))), (r 49, .inl (cs 1, 1100, .inl (a 49))), (r 50, .inl (cs 3, 1100, .inl (a 50))), (r 51, .inl (cs 0, 1100, .inl (a 51))), (r 52, .inl (cs 0, 1100, .inl (a 52))), (r 53, .inl (cs 0, 1100, .inl (a 53))), (r 56, .inl (cs 0, 260, .inl (a 56))), (r 61, .inl (cs 0, 21000, .inl (a 61))), (r 62, .inl (cs 0, 260, .inl (a 62))), (r 63, .inl (cs 0, 260, .inl (a 63))), (r 67, .inl (cs 0, 512, .inl (a 67)))]
def wd_Mpr (cs : Nat → ClassId) (h : Nat) (r : Nat → Nat) (o : Nat → Option Nat) (f : Nat → Int32) (a : Nat → Nat → Int32) (g : Nat → Nat → Option Nat) : va_W := [(h, .inr (13, [va_rf (o 0), .int (f 1), .int (f 2), .int (f 3), .int (f 4), .int (f 5), .int (f 6), .int (f 7), .ref (r 8), .ref (r 9), .int (f 10), .int (f 11), .int (f 12), .int (f 13), .int (f 14), .ref (r 15), .ref (r 16), .ref (r 17), .ref (r 18), .ref (r 19), .ref (r 20), .int (f 21), .ref (r 22), .int (f 23), .int (f 24), .ref (r 25)])), (r 8, .inl (cs 0, 37000, .inl (a 8))), (r 9, .inl (cs 0, 62500, .inl (a 9))), (r 15, .inl (cs 0, 132, .inl (a 15))), (r 16, .inl (cs 0, 132, .inl (a 16))), (r 17, .inl (cs 0, 132, .inl (a 17))), (r 18, .inl (cs 0, 132, .inl (a 18))), (r 19, .inl (cs 0, 32, .inl (a 19))), (r 20, .inl (cs 0, 4, .inl (a 20))), (r 22, .inl (cs 0, 4, .inl (a 22))), (r 25, .inl (cs 0, 256, .inl (a 25)))]
