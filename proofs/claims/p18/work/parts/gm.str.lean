theorem m1_54n : Cond.stringRef "HomeSystem$Tokens" 21 "int char void enum if else while do for switch case default break continue return len put send recv more spawn wait get set end main " ∈ tables_1 := by unfold tables_1; exact List.mem_append_left _ (List.mem_of_getElem? (i := 54) rfl)
theorem m4_6n : Cond.stringRef "HomeSystem$Tokens" 127 "(){}[],;:?=|^&<>+-*/%!~" ∈ tables_1 := by unfold tables_1; exact List.mem_append_right _ (List.mem_append_right _ (List.mem_append_right _ (List.mem_append_left _ (List.mem_of_getElem? (i := 6) rfl))))
theorem m9_141n : Cond.stringRef "HomeSystemModel$Program" 11 "int" ∈ tables_1 := by unfold tables_1; exact List.mem_append_right _ (List.mem_append_right _ (List.mem_append_right _ (List.mem_append_right _ (List.mem_append_right _ (List.mem_append_right _ (List.mem_append_right _ (List.mem_append_right _ (List.mem_append_left _ (List.mem_of_getElem? (i := 141) rfl)))))))))
theorem m9_142n : Cond.stringRef "HomeSystemModel$Program" 13 "char" ∈ tables_1 := by unfold tables_1; exact List.mem_append_right _ (List.mem_append_right _ (List.mem_append_right _ (List.mem_append_right _ (List.mem_append_right _ (List.mem_append_right _ (List.mem_append_right _ (List.mem_append_right _ (List.mem_append_left _ (List.mem_of_getElem? (i := 142) rfl)))))))))
theorem m9_143n : Cond.stringRef "HomeSystemModel$Program" 15 "void" ∈ tables_1 := by unfold tables_1; exact List.mem_append_right _ (List.mem_append_right _ (List.mem_append_right _ (List.mem_append_right _ (List.mem_append_right _ (List.mem_append_right _ (List.mem_append_right _ (List.mem_append_right _ (List.mem_append_left _ (List.mem_of_getElem? (i := 143) rfl)))))))))
theorem m9_144n : Cond.stringRef "HomeSystemModel$Program" 17 "enum" ∈ tables_1 := by unfold tables_1; exact List.mem_append_right _ (List.mem_append_right _ (List.mem_append_right _ (List.mem_append_right _ (List.mem_append_right _ (List.mem_append_right _ (List.mem_append_right _ (List.mem_append_right _ (List.mem_append_left _ (List.mem_of_getElem? (i := 144) rfl)))))))))
theorem m9_145n : Cond.stringRef "HomeSystemModel$Program" 19 "if" ∈ tables_1 := by unfold tables_1; exact List.mem_append_right _ (List.mem_append_right _ (List.mem_append_right _ (List.mem_append_right _ (List.mem_append_right _ (List.mem_append_right _ (List.mem_append_right _ (List.mem_append_right _ (List.mem_append_left _ (List.mem_of_getElem? (i := 145) rfl)))))))))
theorem m9_146n : Cond.stringRef "HomeSystemModel$Program" 21 "else" ∈ tables_1 := by unfold tables_1; exact List.mem_append_right _ (List.mem_append_right _ (List.mem_append_right _ (List.mem_append_right _ (List.mem_append_right _ (List.mem_append_right _ (List.mem_append_right _ (List.mem_append_right _ (List.mem_append_left _ (List.mem_of_getElem? (i := 146) rfl)))))))))
theorem m9_147n : Cond.stringRef "HomeSystemModel$Program" 23 "while" ∈ tables_1 := by unfold tables_1; exact List.mem_append_right _ (List.mem_append_right _ (List.mem_append_right _ (List.mem_append_right _ (List.mem_append_right _ (List.mem_append_right _ (List.mem_append_right _ (List.mem_append_right _ (List.mem_append_left _ (List.mem_of_getElem? (i := 147) rfl)))))))))
theorem m9_148n : Cond.stringRef "HomeSystemModel$Program" 25 "do" ∈ tables_1 := by unfold tables_1; exact List.mem_append_right _ (List.mem_append_right _ (List.mem_append_right _ (List.mem_append_right _ (List.mem_append_right _ (List.mem_append_right _ (List.mem_append_right _ (List.mem_append_right _ (List.mem_append_left _ (List.mem_of_getElem? (i := 148) rfl)))))))))
theorem m9_149n : Cond.stringRef "HomeSystemModel$Program" 27 "for" ∈ tables_1 := by unfold tables_1; exact List.mem_append_right _ (List.mem_append_right _ (List.mem_append_right _ (List.mem_append_right _ (List.mem_append_right _ (List.mem_append_right _ (List.mem_append_right _ (List.mem_append_right _ (List.mem_append_left _ (List.mem_of_getElem? (i := 149) rfl)))))))))
theorem m9_150n : Cond.stringRef "HomeSystemModel$Program" 29 "switch" ∈ tables_1 := by unfold tables_1; exact List.mem_append_right _ (List.mem_append_right _ (List.mem_append_right _ (List.mem_append_right _ (List.mem_append_right _ (List.mem_append_right _ (List.mem_append_right _ (List.mem_append_right _ (List.mem_append_left _ (List.mem_of_getElem? (i := 150) rfl)))))))))
theorem m9_151n : Cond.stringRef "HomeSystemModel$Program" 31 "case" ∈ tables_1 := by unfold tables_1; exact List.mem_append_right _ (List.mem_append_right _ (List.mem_append_right _ (List.mem_append_right _ (List.mem_append_right _ (List.mem_append_right _ (List.mem_append_right _ (List.mem_append_right _ (List.mem_append_left _ (List.mem_of_getElem? (i := 151) rfl)))))))))
theorem m9_152n : Cond.stringRef "HomeSystemModel$Program" 33 "default" ∈ tables_1 := by unfold tables_1; exact List.mem_append_right _ (List.mem_append_right _ (List.mem_append_right _ (List.mem_append_right _ (List.mem_append_right _ (List.mem_append_right _ (List.mem_append_right _ (List.mem_append_right _ (List.mem_append_left _ (List.mem_of_getElem? (i := 152) rfl)))))))))
theorem m9_153n : Cond.stringRef "HomeSystemModel$Program" 35 "break" ∈ tables_1 := by unfold tables_1; exact List.mem_append_right _ (List.mem_append_right _ (List.mem_append_right _ (List.mem_append_right _ (List.mem_append_right _ (List.mem_append_right _ (List.mem_append_right _ (List.mem_append_right _ (List.mem_append_left _ (List.mem_of_getElem? (i := 153) rfl)))))))))
theorem m9_154n : Cond.stringRef "HomeSystemModel$Program" 37 "continue" ∈ tables_1 := by unfold tables_1; exact List.mem_append_right _ (List.mem_append_right _ (List.mem_append_right _ (List.mem_append_right _ (List.mem_append_right _ (List.mem_append_right _ (List.mem_append_right _ (List.mem_append_right _ (List.mem_append_left _ (List.mem_of_getElem? (i := 154) rfl)))))))))
theorem m9_155n : Cond.stringRef "HomeSystemModel$Program" 39 "return" ∈ tables_1 := by unfold tables_1; exact List.mem_append_right _ (List.mem_append_right _ (List.mem_append_right _ (List.mem_append_right _ (List.mem_append_right _ (List.mem_append_right _ (List.mem_append_right _ (List.mem_append_right _ (List.mem_append_left _ (List.mem_of_getElem? (i := 155) rfl)))))))))
theorem m9_156n : Cond.stringRef "HomeSystemModel$Program" 47 "<<=" ∈ tables_1 := by unfold tables_1; exact List.mem_append_right _ (List.mem_append_right _ (List.mem_append_right _ (List.mem_append_right _ (List.mem_append_right _ (List.mem_append_right _ (List.mem_append_right _ (List.mem_append_right _ (List.mem_append_left _ (List.mem_of_getElem? (i := 156) rfl)))))))))
theorem m9_157n : Cond.stringRef "HomeSystemModel$Program" 49 ">>=" ∈ tables_1 := by unfold tables_1; exact List.mem_append_right _ (List.mem_append_right _ (List.mem_append_right _ (List.mem_append_right _ (List.mem_append_right _ (List.mem_append_right _ (List.mem_append_right _ (List.mem_append_right _ (List.mem_append_left _ (List.mem_of_getElem? (i := 157) rfl)))))))))
theorem m9_158n : Cond.stringRef "HomeSystemModel$Program" 51 "+=" ∈ tables_1 := by unfold tables_1; exact List.mem_append_right _ (List.mem_append_right _ (List.mem_append_right _ (List.mem_append_right _ (List.mem_append_right _ (List.mem_append_right _ (List.mem_append_right _ (List.mem_append_right _ (List.mem_append_left _ (List.mem_of_getElem? (i := 158) rfl)))))))))
theorem m9_159n : Cond.stringRef "HomeSystemModel$Program" 53 "-=" ∈ tables_1 := by unfold tables_1; exact List.mem_append_right _ (List.mem_append_right _ (List.mem_append_right _ (List.mem_append_right _ (List.mem_append_right _ (List.mem_append_right _ (List.mem_append_right _ (List.mem_append_right _ (List.mem_append_left _ (List.mem_of_getElem? (i := 159) rfl)))))))))
theorem m9_160n : Cond.stringRef "HomeSystemModel$Program" 55 "*=" ∈ tables_1 := by unfold tables_1; exact List.mem_append_right _ (List.mem_append_right _ (List.mem_append_right _ (List.mem_append_right _ (List.mem_append_right _ (List.mem_append_right _ (List.mem_append_right _ (List.mem_append_right _ (List.mem_append_left _ (List.mem_of_getElem? (i := 160) rfl)))))))))
theorem m9_161n : Cond.stringRef "HomeSystemModel$Program" 57 "/=" ∈ tables_1 := by unfold tables_1; exact List.mem_append_right _ (List.mem_append_right _ (List.mem_append_right _ (List.mem_append_right _ (List.mem_append_right _ (List.mem_append_right _ (List.mem_append_right _ (List.mem_append_right _ (List.mem_append_left _ (List.mem_of_getElem? (i := 161) rfl)))))))))
theorem m9_162n : Cond.stringRef "HomeSystemModel$Program" 59 "%=" ∈ tables_1 := by unfold tables_1; exact List.mem_append_right _ (List.mem_append_right _ (List.mem_append_right _ (List.mem_append_right _ (List.mem_append_right _ (List.mem_append_right _ (List.mem_append_right _ (List.mem_append_right _ (List.mem_append_left _ (List.mem_of_getElem? (i := 162) rfl)))))))))
theorem m9_163n : Cond.stringRef "HomeSystemModel$Program" 61 "&=" ∈ tables_1 := by unfold tables_1; exact List.mem_append_right _ (List.mem_append_right _ (List.mem_append_right _ (List.mem_append_right _ (List.mem_append_right _ (List.mem_append_right _ (List.mem_append_right _ (List.mem_append_right _ (List.mem_append_left _ (List.mem_of_getElem? (i := 163) rfl)))))))))
theorem m9_164n : Cond.stringRef "HomeSystemModel$Program" 63 "|=" ∈ tables_1 := by unfold tables_1; exact List.mem_append_right _ (List.mem_append_right _ (List.mem_append_right _ (List.mem_append_right _ (List.mem_append_right _ (List.mem_append_right _ (List.mem_append_right _ (List.mem_append_right _ (List.mem_append_left _ (List.mem_of_getElem? (i := 164) rfl)))))))))
theorem m9_165n : Cond.stringRef "HomeSystemModel$Program" 65 "^=" ∈ tables_1 := by unfold tables_1; exact List.mem_append_right _ (List.mem_append_right _ (List.mem_append_right _ (List.mem_append_right _ (List.mem_append_right _ (List.mem_append_right _ (List.mem_append_right _ (List.mem_append_right _ (List.mem_append_left _ (List.mem_of_getElem? (i := 165) rfl)))))))))
theorem m9_166n : Cond.stringRef "HomeSystemModel$Program" 67 "||" ∈ tables_1 := by unfold tables_1; exact List.mem_append_right _ (List.mem_append_right _ (List.mem_append_right _ (List.mem_append_right _ (List.mem_append_right _ (List.mem_append_right _ (List.mem_append_right _ (List.mem_append_right _ (List.mem_append_left _ (List.mem_of_getElem? (i := 166) rfl)))))))))
theorem m9_167n : Cond.stringRef "HomeSystemModel$Program" 69 "&&" ∈ tables_1 := by unfold tables_1; exact List.mem_append_right _ (List.mem_append_right _ (List.mem_append_right _ (List.mem_append_right _ (List.mem_append_right _ (List.mem_append_right _ (List.mem_append_right _ (List.mem_append_right _ (List.mem_append_left _ (List.mem_of_getElem? (i := 167) rfl)))))))))
theorem m9_168n : Cond.stringRef "HomeSystemModel$Program" 71 "==" ∈ tables_1 := by unfold tables_1; exact List.mem_append_right _ (List.mem_append_right _ (List.mem_append_right _ (List.mem_append_right _ (List.mem_append_right _ (List.mem_append_right _ (List.mem_append_right _ (List.mem_append_right _ (List.mem_append_left _ (List.mem_of_getElem? (i := 168) rfl)))))))))
theorem m9_169n : Cond.stringRef "HomeSystemModel$Program" 73 "!=" ∈ tables_1 := by unfold tables_1; exact List.mem_append_right _ (List.mem_append_right _ (List.mem_append_right _ (List.mem_append_right _ (List.mem_append_right _ (List.mem_append_right _ (List.mem_append_right _ (List.mem_append_right _ (List.mem_append_left _ (List.mem_of_getElem? (i := 169) rfl)))))))))
theorem m9_170n : Cond.stringRef "HomeSystemModel$Program" 75 "<=" ∈ tables_1 := by unfold tables_1; exact List.mem_append_right _ (List.mem_append_right _ (List.mem_append_right _ (List.mem_append_right _ (List.mem_append_right _ (List.mem_append_right _ (List.mem_append_right _ (List.mem_append_right _ (List.mem_append_left _ (List.mem_of_getElem? (i := 170) rfl)))))))))
theorem m9_171n : Cond.stringRef "HomeSystemModel$Program" 77 ">=" ∈ tables_1 := by unfold tables_1; exact List.mem_append_right _ (List.mem_append_right _ (List.mem_append_right _ (List.mem_append_right _ (List.mem_append_right _ (List.mem_append_right _ (List.mem_append_right _ (List.mem_append_right _ (List.mem_append_left _ (List.mem_of_getElem? (i := 171) rfl)))))))))
theorem m9_172n : Cond.stringRef "HomeSystemModel$Program" 79 "<<" ∈ tables_1 := by unfold tables_1; exact List.mem_append_right _ (List.mem_append_right _ (List.mem_append_right _ (List.mem_append_right _ (List.mem_append_right _ (List.mem_append_right _ (List.mem_append_right _ (List.mem_append_right _ (List.mem_append_left _ (List.mem_of_getElem? (i := 172) rfl)))))))))
theorem m9_173n : Cond.stringRef "HomeSystemModel$Program" 81 ">>" ∈ tables_1 := by unfold tables_1; exact List.mem_append_right _ (List.mem_append_right _ (List.mem_append_right _ (List.mem_append_right _ (List.mem_append_right _ (List.mem_append_right _ (List.mem_append_right _ (List.mem_append_right _ (List.mem_append_left _ (List.mem_of_getElem? (i := 173) rfl)))))))))
theorem m9_174n : Cond.stringRef "HomeSystemModel$Program" 83 "++" ∈ tables_1 := by unfold tables_1; exact List.mem_append_right _ (List.mem_append_right _ (List.mem_append_right _ (List.mem_append_right _ (List.mem_append_right _ (List.mem_append_right _ (List.mem_append_right _ (List.mem_append_right _ (List.mem_append_left _ (List.mem_of_getElem? (i := 174) rfl)))))))))
theorem m9_175n : Cond.stringRef "HomeSystemModel$Program" 85 "--" ∈ tables_1 := by unfold tables_1; exact List.mem_append_right _ (List.mem_append_right _ (List.mem_append_right _ (List.mem_append_right _ (List.mem_append_right _ (List.mem_append_right _ (List.mem_append_right _ (List.mem_append_right _ (List.mem_append_left _ (List.mem_of_getElem? (i := 175) rfl)))))))))
theorem m9_176n : Cond.stringRef "HomeSystemModel$Program" 87 "(" ∈ tables_1 := by unfold tables_1; exact List.mem_append_right _ (List.mem_append_right _ (List.mem_append_right _ (List.mem_append_right _ (List.mem_append_right _ (List.mem_append_right _ (List.mem_append_right _ (List.mem_append_right _ (List.mem_append_left _ (List.mem_of_getElem? (i := 176) rfl)))))))))
theorem m9_177n : Cond.stringRef "HomeSystemModel$Program" 89 ")" ∈ tables_1 := by unfold tables_1; exact List.mem_append_right _ (List.mem_append_right _ (List.mem_append_right _ (List.mem_append_right _ (List.mem_append_right _ (List.mem_append_right _ (List.mem_append_right _ (List.mem_append_right _ (List.mem_append_left _ (List.mem_of_getElem? (i := 177) rfl)))))))))
theorem m9_178n : Cond.stringRef "HomeSystemModel$Program" 91 "{" ∈ tables_1 := by unfold tables_1; exact List.mem_append_right _ (List.mem_append_right _ (List.mem_append_right _ (List.mem_append_right _ (List.mem_append_right _ (List.mem_append_right _ (List.mem_append_right _ (List.mem_append_right _ (List.mem_append_left _ (List.mem_of_getElem? (i := 178) rfl)))))))))
theorem m9_179n : Cond.stringRef "HomeSystemModel$Program" 93 "}" ∈ tables_1 := by unfold tables_1; exact List.mem_append_right _ (List.mem_append_right _ (List.mem_append_right _ (List.mem_append_right _ (List.mem_append_right _ (List.mem_append_right _ (List.mem_append_right _ (List.mem_append_right _ (List.mem_append_left _ (List.mem_of_getElem? (i := 179) rfl)))))))))
theorem m9_180n : Cond.stringRef "HomeSystemModel$Program" 95 "[" ∈ tables_1 := by unfold tables_1; exact List.mem_append_right _ (List.mem_append_right _ (List.mem_append_right _ (List.mem_append_right _ (List.mem_append_right _ (List.mem_append_right _ (List.mem_append_right _ (List.mem_append_right _ (List.mem_append_left _ (List.mem_of_getElem? (i := 180) rfl)))))))))
theorem m9_181n : Cond.stringRef "HomeSystemModel$Program" 97 "]" ∈ tables_1 := by unfold tables_1; exact List.mem_append_right _ (List.mem_append_right _ (List.mem_append_right _ (List.mem_append_right _ (List.mem_append_right _ (List.mem_append_right _ (List.mem_append_right _ (List.mem_append_right _ (List.mem_append_left _ (List.mem_of_getElem? (i := 181) rfl)))))))))
theorem m9_182n : Cond.stringRef "HomeSystemModel$Program" 99 "," ∈ tables_1 := by unfold tables_1; exact List.mem_append_right _ (List.mem_append_right _ (List.mem_append_right _ (List.mem_append_right _ (List.mem_append_right _ (List.mem_append_right _ (List.mem_append_right _ (List.mem_append_right _ (List.mem_append_left _ (List.mem_of_getElem? (i := 182) rfl)))))))))
theorem m9_183n : Cond.stringRef "HomeSystemModel$Program" 101 ";" ∈ tables_1 := by unfold tables_1; exact List.mem_append_right _ (List.mem_append_right _ (List.mem_append_right _ (List.mem_append_right _ (List.mem_append_right _ (List.mem_append_right _ (List.mem_append_right _ (List.mem_append_right _ (List.mem_append_left _ (List.mem_of_getElem? (i := 183) rfl)))))))))
theorem m9_184n : Cond.stringRef "HomeSystemModel$Program" 103 ":" ∈ tables_1 := by unfold tables_1; exact List.mem_append_right _ (List.mem_append_right _ (List.mem_append_right _ (List.mem_append_right _ (List.mem_append_right _ (List.mem_append_right _ (List.mem_append_right _ (List.mem_append_right _ (List.mem_append_left _ (List.mem_of_getElem? (i := 184) rfl)))))))))
theorem m9_185n : Cond.stringRef "HomeSystemModel$Program" 105 "?" ∈ tables_1 := by unfold tables_1; exact List.mem_append_right _ (List.mem_append_right _ (List.mem_append_right _ (List.mem_append_right _ (List.mem_append_right _ (List.mem_append_right _ (List.mem_append_right _ (List.mem_append_right _ (List.mem_append_left _ (List.mem_of_getElem? (i := 185) rfl)))))))))
theorem m9_186n : Cond.stringRef "HomeSystemModel$Program" 107 "=" ∈ tables_1 := by unfold tables_1; exact List.mem_append_right _ (List.mem_append_right _ (List.mem_append_right _ (List.mem_append_right _ (List.mem_append_right _ (List.mem_append_right _ (List.mem_append_right _ (List.mem_append_right _ (List.mem_append_left _ (List.mem_of_getElem? (i := 186) rfl)))))))))
theorem m9_187n : Cond.stringRef "HomeSystemModel$Program" 109 "|" ∈ tables_1 := by unfold tables_1; exact List.mem_append_right _ (List.mem_append_right _ (List.mem_append_right _ (List.mem_append_right _ (List.mem_append_right _ (List.mem_append_right _ (List.mem_append_right _ (List.mem_append_right _ (List.mem_append_left _ (List.mem_of_getElem? (i := 187) rfl)))))))))
theorem m9_188n : Cond.stringRef "HomeSystemModel$Program" 111 "^" ∈ tables_1 := by unfold tables_1; exact List.mem_append_right _ (List.mem_append_right _ (List.mem_append_right _ (List.mem_append_right _ (List.mem_append_right _ (List.mem_append_right _ (List.mem_append_right _ (List.mem_append_right _ (List.mem_append_left _ (List.mem_of_getElem? (i := 188) rfl)))))))))
theorem m9_189n : Cond.stringRef "HomeSystemModel$Program" 113 "&" ∈ tables_1 := by unfold tables_1; exact List.mem_append_right _ (List.mem_append_right _ (List.mem_append_right _ (List.mem_append_right _ (List.mem_append_right _ (List.mem_append_right _ (List.mem_append_right _ (List.mem_append_right _ (List.mem_append_left _ (List.mem_of_getElem? (i := 189) rfl)))))))))
theorem m9_190n : Cond.stringRef "HomeSystemModel$Program" 115 "<" ∈ tables_1 := by unfold tables_1; exact List.mem_append_right _ (List.mem_append_right _ (List.mem_append_right _ (List.mem_append_right _ (List.mem_append_right _ (List.mem_append_right _ (List.mem_append_right _ (List.mem_append_right _ (List.mem_append_left _ (List.mem_of_getElem? (i := 190) rfl)))))))))
theorem m9_191n : Cond.stringRef "HomeSystemModel$Program" 117 ">" ∈ tables_1 := by unfold tables_1; exact List.mem_append_right _ (List.mem_append_right _ (List.mem_append_right _ (List.mem_append_right _ (List.mem_append_right _ (List.mem_append_right _ (List.mem_append_right _ (List.mem_append_right _ (List.mem_append_left _ (List.mem_of_getElem? (i := 191) rfl)))))))))
theorem m9_192n : Cond.stringRef "HomeSystemModel$Program" 119 "+" ∈ tables_1 := by unfold tables_1; exact List.mem_append_right _ (List.mem_append_right _ (List.mem_append_right _ (List.mem_append_right _ (List.mem_append_right _ (List.mem_append_right _ (List.mem_append_right _ (List.mem_append_right _ (List.mem_append_left _ (List.mem_of_getElem? (i := 192) rfl)))))))))
theorem m9_193n : Cond.stringRef "HomeSystemModel$Program" 121 "-" ∈ tables_1 := by unfold tables_1; exact List.mem_append_right _ (List.mem_append_right _ (List.mem_append_right _ (List.mem_append_right _ (List.mem_append_right _ (List.mem_append_right _ (List.mem_append_right _ (List.mem_append_right _ (List.mem_append_left _ (List.mem_of_getElem? (i := 193) rfl)))))))))
theorem m9_194n : Cond.stringRef "HomeSystemModel$Program" 123 "*" ∈ tables_1 := by unfold tables_1; exact List.mem_append_right _ (List.mem_append_right _ (List.mem_append_right _ (List.mem_append_right _ (List.mem_append_right _ (List.mem_append_right _ (List.mem_append_right _ (List.mem_append_right _ (List.mem_append_left _ (List.mem_of_getElem? (i := 194) rfl)))))))))
theorem m9_195n : Cond.stringRef "HomeSystemModel$Program" 125 "/" ∈ tables_1 := by unfold tables_1; exact List.mem_append_right _ (List.mem_append_right _ (List.mem_append_right _ (List.mem_append_right _ (List.mem_append_right _ (List.mem_append_right _ (List.mem_append_right _ (List.mem_append_right _ (List.mem_append_left _ (List.mem_of_getElem? (i := 195) rfl)))))))))
theorem m9_196n : Cond.stringRef "HomeSystemModel$Program" 127 "%" ∈ tables_1 := by unfold tables_1; exact List.mem_append_right _ (List.mem_append_right _ (List.mem_append_right _ (List.mem_append_right _ (List.mem_append_right _ (List.mem_append_right _ (List.mem_append_right _ (List.mem_append_right _ (List.mem_append_left _ (List.mem_of_getElem? (i := 196) rfl)))))))))
theorem m9_197n : Cond.stringRef "HomeSystemModel$Program" 129 "!" ∈ tables_1 := by unfold tables_1; exact List.mem_append_right _ (List.mem_append_right _ (List.mem_append_right _ (List.mem_append_right _ (List.mem_append_right _ (List.mem_append_right _ (List.mem_append_right _ (List.mem_append_right _ (List.mem_append_left _ (List.mem_of_getElem? (i := 197) rfl)))))))))
theorem m9_198n : Cond.stringRef "HomeSystemModel$Program" 131 "~" ∈ tables_1 := by unfold tables_1; exact List.mem_append_right _ (List.mem_append_right _ (List.mem_append_right _ (List.mem_append_right _ (List.mem_append_right _ (List.mem_append_right _ (List.mem_append_right _ (List.mem_append_right _ (List.mem_append_left _ (List.mem_of_getElem? (i := 198) rfl)))))))))
theorem m9_199n : Cond.stringRef "HomeSystemModel$Program" 136 "len" ∈ tables_1 := by unfold tables_1; exact List.mem_append_right _ (List.mem_append_right _ (List.mem_append_right _ (List.mem_append_right _ (List.mem_append_right _ (List.mem_append_right _ (List.mem_append_right _ (List.mem_append_right _ (List.mem_append_left _ (List.mem_of_getElem? (i := 199) rfl)))))))))
theorem m9_200n : Cond.stringRef "HomeSystemModel$Program" 138 "put" ∈ tables_1 := by unfold tables_1; exact List.mem_append_right _ (List.mem_append_right _ (List.mem_append_right _ (List.mem_append_right _ (List.mem_append_right _ (List.mem_append_right _ (List.mem_append_right _ (List.mem_append_right _ (List.mem_append_left _ (List.mem_of_getElem? (i := 200) rfl)))))))))
theorem m9_201n : Cond.stringRef "HomeSystemModel$Program" 140 "send" ∈ tables_1 := by unfold tables_1; exact List.mem_append_right _ (List.mem_append_right _ (List.mem_append_right _ (List.mem_append_right _ (List.mem_append_right _ (List.mem_append_right _ (List.mem_append_right _ (List.mem_append_right _ (List.mem_append_left _ (List.mem_of_getElem? (i := 201) rfl)))))))))
theorem m9_202n : Cond.stringRef "HomeSystemModel$Program" 142 "recv" ∈ tables_1 := by unfold tables_1; exact List.mem_append_right _ (List.mem_append_right _ (List.mem_append_right _ (List.mem_append_right _ (List.mem_append_right _ (List.mem_append_right _ (List.mem_append_right _ (List.mem_append_right _ (List.mem_append_left _ (List.mem_of_getElem? (i := 202) rfl)))))))))
theorem m9_203n : Cond.stringRef "HomeSystemModel$Program" 144 "more" ∈ tables_1 := by unfold tables_1; exact List.mem_append_right _ (List.mem_append_right _ (List.mem_append_right _ (List.mem_append_right _ (List.mem_append_right _ (List.mem_append_right _ (List.mem_append_right _ (List.mem_append_right _ (List.mem_append_left _ (List.mem_of_getElem? (i := 203) rfl)))))))))
theorem m9_204n : Cond.stringRef "HomeSystemModel$Program" 146 "spawn" ∈ tables_1 := by unfold tables_1; exact List.mem_append_right _ (List.mem_append_right _ (List.mem_append_right _ (List.mem_append_right _ (List.mem_append_right _ (List.mem_append_right _ (List.mem_append_right _ (List.mem_append_right _ (List.mem_append_left _ (List.mem_of_getElem? (i := 204) rfl)))))))))
theorem m9_205n : Cond.stringRef "HomeSystemModel$Program" 148 "wait" ∈ tables_1 := by unfold tables_1; exact List.mem_append_right _ (List.mem_append_right _ (List.mem_append_right _ (List.mem_append_right _ (List.mem_append_right _ (List.mem_append_right _ (List.mem_append_right _ (List.mem_append_right _ (List.mem_append_left _ (List.mem_of_getElem? (i := 205) rfl)))))))))
theorem m9_206n : Cond.stringRef "HomeSystemModel$Program" 150 "get" ∈ tables_1 := by unfold tables_1; exact List.mem_append_right _ (List.mem_append_right _ (List.mem_append_right _ (List.mem_append_right _ (List.mem_append_right _ (List.mem_append_right _ (List.mem_append_right _ (List.mem_append_right _ (List.mem_append_left _ (List.mem_of_getElem? (i := 206) rfl)))))))))
theorem m9_207n : Cond.stringRef "HomeSystemModel$Program" 152 "set" ∈ tables_1 := by unfold tables_1; exact List.mem_append_right _ (List.mem_append_right _ (List.mem_append_right _ (List.mem_append_right _ (List.mem_append_right _ (List.mem_append_right _ (List.mem_append_right _ (List.mem_append_right _ (List.mem_append_left _ (List.mem_of_getElem? (i := 207) rfl)))))))))
theorem m9_208n : Cond.stringRef "HomeSystemModel$Program" 154 "end" ∈ tables_1 := by unfold tables_1; exact List.mem_append_right _ (List.mem_append_right _ (List.mem_append_right _ (List.mem_append_right _ (List.mem_append_right _ (List.mem_append_right _ (List.mem_append_right _ (List.mem_append_right _ (List.mem_append_left _ (List.mem_of_getElem? (i := 208) rfl)))))))))
theorem m9_209n : Cond.stringRef "HomeSystemModel$Program" 156 "load" ∈ tables_1 := by unfold tables_1; exact List.mem_append_right _ (List.mem_append_right _ (List.mem_append_right _ (List.mem_append_right _ (List.mem_append_right _ (List.mem_append_right _ (List.mem_append_right _ (List.mem_append_right _ (List.mem_append_left _ (List.mem_of_getElem? (i := 209) rfl)))))))))
theorem m9_210n : Cond.stringRef "HomeSystemModel$Program" 158 "store" ∈ tables_1 := by unfold tables_1; exact List.mem_append_right _ (List.mem_append_right _ (List.mem_append_right _ (List.mem_append_right _ (List.mem_append_right _ (List.mem_append_right _ (List.mem_append_right _ (List.mem_append_right _ (List.mem_append_left _ (List.mem_of_getElem? (i := 210) rfl)))))))))
theorem m9_211n : Cond.stringRef "HomeSystemModel$Program" 160 "control" ∈ tables_1 := by unfold tables_1; exact List.mem_append_right _ (List.mem_append_right _ (List.mem_append_right _ (List.mem_append_right _ (List.mem_append_right _ (List.mem_append_right _ (List.mem_append_right _ (List.mem_append_right _ (List.mem_append_left _ (List.mem_of_getElem? (i := 211) rfl)))))))))
theorem m9_212n : Cond.stringRef "HomeSystemModel$Program" 162 "setcontrol" ∈ tables_1 := by unfold tables_1; exact List.mem_append_right _ (List.mem_append_right _ (List.mem_append_right _ (List.mem_append_right _ (List.mem_append_right _ (List.mem_append_right _ (List.mem_append_right _ (List.mem_append_right _ (List.mem_append_left _ (List.mem_of_getElem? (i := 212) rfl)))))))))
theorem m9_213n : Cond.stringRef "HomeSystemModel$Program" 164 "host" ∈ tables_1 := by unfold tables_1; exact List.mem_append_right _ (List.mem_append_right _ (List.mem_append_right _ (List.mem_append_right _ (List.mem_append_right _ (List.mem_append_right _ (List.mem_append_right _ (List.mem_append_right _ (List.mem_append_left _ (List.mem_of_getElem? (i := 213) rfl)))))))))
theorem m9_214n : Cond.stringRef "HomeSystemModel$Program" 169 "ia" ∈ tables_1 := by unfold tables_1; exact List.mem_append_right _ (List.mem_append_right _ (List.mem_append_right _ (List.mem_append_right _ (List.mem_append_right _ (List.mem_append_right _ (List.mem_append_right _ (List.mem_append_right _ (List.mem_append_left _ (List.mem_of_getElem? (i := 214) rfl)))))))))
theorem m9_215n : Cond.stringRef "HomeSystemModel$Program" 171 "vi" ∈ tables_1 := by unfold tables_1; exact List.mem_append_right _ (List.mem_append_right _ (List.mem_append_right _ (List.mem_append_right _ (List.mem_append_right _ (List.mem_append_right _ (List.mem_append_right _ (List.mem_append_right _ (List.mem_append_left _ (List.mem_of_getElem? (i := 215) rfl)))))))))
theorem m9_216n : Cond.stringRef "HomeSystemModel$Program" 173 "vii" ∈ tables_1 := by unfold tables_1; exact List.mem_append_right _ (List.mem_append_right _ (List.mem_append_right _ (List.mem_append_right _ (List.mem_append_right _ (List.mem_append_right _ (List.mem_append_right _ (List.mem_append_right _ (List.mem_append_left _ (List.mem_of_getElem? (i := 216) rfl)))))))))
theorem m9_217n : Cond.stringRef "HomeSystemModel$Program" 175 "ii" ∈ tables_1 := by unfold tables_1; exact List.mem_append_right _ (List.mem_append_right _ (List.mem_append_right _ (List.mem_append_right _ (List.mem_append_right _ (List.mem_append_right _ (List.mem_append_right _ (List.mem_append_right _ (List.mem_append_left _ (List.mem_of_getElem? (i := 217) rfl)))))))))
theorem m9_218n : Cond.stringRef "HomeSystemModel$Program" 177 "iii" ∈ tables_1 := by unfold tables_1; exact List.mem_append_right _ (List.mem_append_right _ (List.mem_append_right _ (List.mem_append_right _ (List.mem_append_right _ (List.mem_append_right _ (List.mem_append_right _ (List.mem_append_right _ (List.mem_append_left _ (List.mem_of_getElem? (i := 218) rfl)))))))))
theorem m9_219n : Cond.stringRef "HomeSystemModel$Program" 179 "vis" ∈ tables_1 := by unfold tables_1; exact List.mem_append_right _ (List.mem_append_right _ (List.mem_append_right _ (List.mem_append_right _ (List.mem_append_right _ (List.mem_append_right _ (List.mem_append_right _ (List.mem_append_right _ (List.mem_append_left _ (List.mem_of_getElem? (i := 219) rfl)))))))))
theorem m9_220n : Cond.stringRef "HomeSystemModel$Program" 181 "ik" ∈ tables_1 := by unfold tables_1; exact List.mem_append_right _ (List.mem_append_right _ (List.mem_append_right _ (List.mem_append_right _ (List.mem_append_right _ (List.mem_append_right _ (List.mem_append_right _ (List.mem_append_right _ (List.mem_append_left _ (List.mem_of_getElem? (i := 220) rfl)))))))))
theorem m9_221n : Cond.stringRef "HomeSystemModel$Program" 183 "vki" ∈ tables_1 := by unfold tables_1; exact List.mem_append_right _ (List.mem_append_right _ (List.mem_append_right _ (List.mem_append_right _ (List.mem_append_right _ (List.mem_append_right _ (List.mem_append_right _ (List.mem_append_right _ (List.mem_append_left _ (List.mem_of_getElem? (i := 221) rfl)))))))))
theorem m9_222n : Cond.stringRef "HomeSystemModel$Program" 185 "iiii" ∈ tables_1 := by unfold tables_1; exact List.mem_append_right _ (List.mem_append_right _ (List.mem_append_right _ (List.mem_append_right _ (List.mem_append_right _ (List.mem_append_right _ (List.mem_append_right _ (List.mem_append_right _ (List.mem_append_left _ (List.mem_of_getElem? (i := 222) rfl)))))))))
theorem m13_74n : Cond.stringRef "HomeSystemModel$Program" 688 "main" ∈ tables_1 := by unfold tables_1; exact List.mem_append_right _ (List.mem_append_right _ (List.mem_append_right _ (List.mem_append_right _ (List.mem_append_right _ (List.mem_append_right _ (List.mem_append_right _ (List.mem_append_right _ (List.mem_append_right _ (List.mem_append_right _ (List.mem_append_right _ (List.mem_append_right _ (List.mem_append_left _ (List.mem_of_getElem? (i := 74) rfl)))))))))))))
theorem m14_154n : Cond.stringRef "HomeSystemModel$Process" 186 "<<" ∈ tables_1 := by unfold tables_1; exact List.mem_append_right _ (List.mem_append_right _ (List.mem_append_right _ (List.mem_append_right _ (List.mem_append_right _ (List.mem_append_right _ (List.mem_append_right _ (List.mem_append_right _ (List.mem_append_right _ (List.mem_append_right _ (List.mem_append_right _ (List.mem_append_right _ (List.mem_append_right _ (List.mem_append_left _ (List.mem_of_getElem? (i := 154) rfl))))))))))))))
theorem m14_156n : Cond.stringRef "HomeSystemModel$Process" 192 ">>" ∈ tables_1 := by unfold tables_1; exact List.mem_append_right _ (List.mem_append_right _ (List.mem_append_right _ (List.mem_append_right _ (List.mem_append_right _ (List.mem_append_right _ (List.mem_append_right _ (List.mem_append_right _ (List.mem_append_right _ (List.mem_append_right _ (List.mem_append_right _ (List.mem_append_right _ (List.mem_append_right _ (List.mem_append_left _ (List.mem_of_getElem? (i := 156) rfl))))))))))))))
/-! WHAT LIES OUTSIDE at the law's start: literals, statics, out of the statement's own words -/
def NF : List Cond := flatC narrow_1_1 ++ (flatC narrow_1_2 ++ flatC narrow_1_3)
theorem nf_all {args : Array Value} {s : State} (h : (Jvm.Cond.and given_1 narrow_1).before args s = true) : ∀ c ∈ NF, c.before args s = true := fun c hc => flat_of_before _ h c (show c ∈ flatC given_1 ++ flatC narrow_1 from List.mem_append_right _ hc)
def elT (tm : Term) : Nat → List Int32 → List Cond
  | _, [] => []
  | j, b :: t => .eq (.elem tm (.int (Int32.ofNat j))) (.int b) :: elT tm (j + 1) t
theorem elT_at {tm : Term} : ∀ (bs : List Int32) (j0 j : Nat), j < bs.length → Cond.eq (.elem tm (.int (Int32.ofNat (j0 + j)))) (.int (bs.getD j 0)) ∈ elT tm j0 bs
  | [], _, _, h => absurd h (Nat.not_lt_zero _)
  | b :: t, j0, 0, _ => List.mem_cons_self
  | b :: t, j0, j + 1, h => by
    have := elT_at (tm := tm) t (j0 + 1) j (Nat.lt_of_succ_lt_succ h)
    rw [show j0 + (j + 1) = j0 + 1 + j by omega]
    exact List.mem_cons_of_mem _ this
abbrev vT (own : String) (k : Nat) : Term := .field (.string own k) "java/lang/String" "value" "[B"
def strW (own : String) (k : Nat) (bs : List Int32) : List Cond := .exactly (.string own k) "java/lang/String" :: .eq (.field (.string own k) "java/lang/String" "coder" "B") (.int 0) :: .arrayOf (vT own k) .byte :: .eq (.length (vT own k)) (.int (Int32.ofNat bs.length)) :: elT (vT own k) 0 bs
theorem str_of {args : Array Value} {s : State} {A : Nat → Prop} {own tx : String} {k : Nat} {bs : List Int32} (hb : bs.length < 2 ^ 31) (hr : (Cond.stringRef own k tx).before args s = true) (hw : ∀ c ∈ strW own k bs, c.before args s = true) (hA : ∀ a : Nat, a < s.heap.size → ¬ A a) : ∃ sk st : Nat, vk_R own k tx sk s ∧ oS A sk st bs.length (fun j => bs.getD j 0) s s.heap := by
  obtain ⟨a, c, cA, kA, q1, q2, q3, q4, q5, q6, -⟩ := Cond.exactly_spec (args := args) (first := s) (o := none) (s := s) (idx := []) (t := .string own k) (cls := "java/lang/String") (hw _ List.mem_cons_self)
  have h2 := hw _ (List.mem_cons_of_mem _ List.mem_cons_self)
  have h3 := hw _ (List.mem_cons_of_mem _ (List.mem_cons_of_mem _ List.mem_cons_self))
  have h4 := hw _ (List.mem_cons_of_mem _ (List.mem_cons_of_mem _ (List.mem_cons_of_mem _ List.mem_cons_self)))
  have h5 : ∀ j : Nat, j < bs.length → (Cond.eq (.elem (vT own k) (.int (Int32.ofNat j))) (.int (bs.getD j 0))).before args s = true := fun j hj => hw _ (List.mem_cons_of_mem _ (List.mem_cons_of_mem _ (List.mem_cons_of_mem _ (List.mem_cons_of_mem _ (by have := elT_at (tm := vT own k) bs 0 j hj; rw [Nat.zero_add] at this; exact this)))))
  obtain ⟨t, ht, hT⟩ := va_Tof (f := fun j => .int (bs.getD j 0)) (A := A) hb h3 (va_eqt h4) (fun j hj => va_eqt (h5 j hj)) hA
  exact ⟨a, t, vk_R.of hr q1, ⟨cA, q3, q5, by rw [q6]; exact q2, hA a (Array.getElem?_eq_some_iff.mp q3).1⟩, vk_OFof q1 (va_eqt h2) hA, vk_OFof q1 ht hA, hT⟩
def stW (tm : Term) (bs : List Int32) : List Cond := .isRef tm :: .arrayOf tm .int :: .eq (.length tm) (.int (Int32.ofNat bs.length)) :: elT tm 0 bs
theorem sta_of {args : Array Value} {s : State} {A : Nat → Prop} {C n : String} {bs : List Int32} (hb : bs.length < 2 ^ 31) (hl : (Cond.laysStatic C n "[I").before args s = true) (hi : (Cond.initialized C).before args s = true) (hw : ∀ c ∈ stW (.static C n "[I") bs, c.before args s = true) (hA : ∀ a : Nat, a < s.heap.size → ¬ A a) : oGR C n bs.length bs A s s.heap := by
  have h2 := hw _ (List.mem_cons_of_mem _ List.mem_cons_self)
  have h3 := hw _ (List.mem_cons_of_mem _ (List.mem_cons_of_mem _ List.mem_cons_self))
  have h5 : ∀ j : Nat, j < bs.length → (Cond.eq (.elem (.static C n "[I") (.int (Int32.ofNat j))) (.int (bs.getD j 0))).before args s = true := fun j hj => hw _ (List.mem_cons_of_mem _ (List.mem_cons_of_mem _ (List.mem_cons_of_mem _ (by have := elT_at (tm := .static C n "[I") bs 0 j hj; rw [Nat.zero_add] at this; exact this))))
  obtain ⟨t, ht, hT⟩ := va_Tof (f := fun j => .int (bs.getD j 0)) (A := A) hb h2 (va_eqt h3) (fun j hj => va_eqt (h5 j hj)) hA
  exact ⟨t, va_Zref hl hi ht hA, hT⟩
theorem va_Y_of {args : Array Value} {s : State} {C n d : String} {A : Nat → Prop} (hl : (Cond.laysStatic C n d).before args s = true) (hA : ∀ a : Nat, a < s.heap.size → ¬ A a) : va_Y C n d A s s.heap := by
  obtain ⟨c, k, i, f, a, cell, hc, hi, hst, ha, hcell, hs, hcls, hlt, hty⟩ := Cond.laysStatic_spec hl
  exact ⟨c, k, i, f, a, cell, hc, hi, hst, ha, hcell, hs, hcls, hlt, hty, hA a (Array.getElem?_eq_some_iff.mp hcell).1⟩
theorem oS_cg {A : Nat → Prop} {k t N : Nat} {b b' : Nat → Int32} {U : State} {H : Heap} (h : oS A k t N b U H) (e : ∀ j : Nat, j < N → b j = b' j) : oS A k t N b' U H := by
  obtain ⟨h1, h2, h3, cell, q1, q2, q3, q4, q5, q6, q7⟩ := h
  exact ⟨h1, h2, h3, cell, q1, q2, q3, q4, q5, fun j hj => by
    show cell.slots[j]? = some (.int (b' j))
    rw [← e j hj]
    exact q6 j hj, q7⟩
theorem nf_take {i n : Nat} {l : List Cond} (e : (NF.drop i).take n = l) : ∀ c ∈ l, c ∈ NF := fun c h => List.mem_of_mem_drop (List.mem_of_mem_take (by rw [e]; exact h))
set_option maxRecDepth 100000 in
theorem est_t_21 : (NF.drop 368).take 137 = strW "HomeSystem$Tokens" 21 [105, 110, 116, 32, 99, 104, 97, 114, 32, 118, 111, 105, 100, 32, 101, 110, 117, 109, 32, 105, 102, 32, 101, 108, 115, 101, 32, 119, 104, 105, 108, 101, 32, 100, 111, 32, 102, 111, 114, 32, 115, 119, 105, 116, 99, 104, 32, 99, 97, 115, 101, 32, 100, 101, 102, 97, 117, 108, 116, 32, 98, 114, 101, 97, 107, 32, 99, 111, 110, 116, 105, 110, 117, 101, 32, 114, 101, 116, 117, 114, 110, 32, 108, 101, 110, 32, 112, 117, 116, 32, 115, 101, 110, 100, 32, 114, 101, 99, 118, 32, 109, 111, 114, 101, 32, 115, 112, 97, 119, 110, 32, 119, 97, 105, 116, 32, 103, 101, 116, 32, 115, 101, 116, 32, 101, 110, 100, 32, 109, 97, 105, 110, 32] := rfl
set_option maxRecDepth 100000 in
theorem st_t_21 {args : Array Value} {s : State} {A : Nat → Prop} (hN : ∀ c ∈ NF, c.before args s = true) (hts : ∀ w ∈ lw_tbl, w.before args s = true) (hA : ∀ a : Nat, a < s.heap.size → ¬ A a) : ∃ sk st : Nat, vk_R "HomeSystem$Tokens" 21 "int char void enum if else while do for switch case default break continue return len put send recv more spawn wait get set end main " sk s ∧ oS A sk st 133 (fun j => ([105, 110, 116, 32, 99, 104, 97, 114, 32, 118, 111, 105, 100, 32, 101, 110, 117, 109, 32, 105, 102, 32, 101, 108, 115, 101, 32, 119, 104, 105, 108, 101, 32, 100, 111, 32, 102, 111, 114, 32, 115, 119, 105, 116, 99, 104, 32, 99, 97, 115, 101, 32, 100, 101, 102, 97, 117, 108, 116, 32, 98, 114, 101, 97, 107, 32, 99, 111, 110, 116, 105, 110, 117, 101, 32, 114, 101, 116, 117, 114, 110, 32, 108, 101, 110, 32, 112, 117, 116, 32, 115, 101, 110, 100, 32, 114, 101, 99, 118, 32, 109, 111, 114, 101, 32, 115, 112, 97, 119, 110, 32, 119, 97, 105, 116, 32, 103, 101, 116, 32, 115, 101, 116, 32, 101, 110, 100, 32, 109, 97, 105, 110, 32] : List Int32).getD j 0) s s.heap := str_of (bs := [105, 110, 116, 32, 99, 104, 97, 114, 32, 118, 111, 105, 100, 32, 101, 110, 117, 109, 32, 105, 102, 32, 101, 108, 115, 101, 32, 119, 104, 105, 108, 101, 32, 100, 111, 32, 102, 111, 114, 32, 115, 119, 105, 116, 99, 104, 32, 99, 97, 115, 101, 32, 100, 101, 102, 97, 117, 108, 116, 32, 98, 114, 101, 97, 107, 32, 99, 111, 110, 116, 105, 110, 117, 101, 32, 114, 101, 116, 117, 114, 110, 32, 108, 101, 110, 32, 112, 117, 116, 32, 115, 101, 110, 100, 32, 114, 101, 99, 118, 32, 109, 111, 114, 101, 32, 115, 112, 97, 119, 110, 32, 119, 97, 105, 116, 32, 103, 101, 116, 32, 115, 101, 116, 32, 101, 110, 100, 32, 109, 97, 105, 110, 32]) (by decide) (hts _ (List.mem_append_right _ m1_54n)) (fun c h => hN c (nf_take est_t_21 c h)) hA
set_option maxRecDepth 100000 in
theorem est_t_127 : (NF.drop 505).take 27 = strW "HomeSystem$Tokens" 127 [40, 41, 123, 125, 91, 93, 44, 59, 58, 63, 61, 124, 94, 38, 60, 62, 43, 45, 42, 47, 37, 33, 126] := rfl
set_option maxRecDepth 100000 in
theorem st_t_127 {args : Array Value} {s : State} {A : Nat → Prop} (hN : ∀ c ∈ NF, c.before args s = true) (hts : ∀ w ∈ lw_tbl, w.before args s = true) (hA : ∀ a : Nat, a < s.heap.size → ¬ A a) : ∃ sk st : Nat, vk_R "HomeSystem$Tokens" 127 "(){}[],;:?=|^&<>+-*/%!~" sk s ∧ oS A sk st 23 (fun j => ([40, 41, 123, 125, 91, 93, 44, 59, 58, 63, 61, 124, 94, 38, 60, 62, 43, 45, 42, 47, 37, 33, 126] : List Int32).getD j 0) s s.heap := str_of (bs := [40, 41, 123, 125, 91, 93, 44, 59, 58, 63, 61, 124, 94, 38, 60, 62, 43, 45, 42, 47, 37, 33, 126]) (by decide) (hts _ (List.mem_append_right _ m4_6n)) (fun c h => hN c (nf_take est_t_127 c h)) hA
set_option maxRecDepth 100000 in
theorem est_p_11 : (NF.drop 604).take 7 = strW "HomeSystemModel$Program" 11 [105, 110, 116] := rfl
set_option maxRecDepth 100000 in
theorem st_p_11 {args : Array Value} {s : State} {A : Nat → Prop} (hN : ∀ c ∈ NF, c.before args s = true) (hts : ∀ w ∈ lw_tbl, w.before args s = true) (hA : ∀ a : Nat, a < s.heap.size → ¬ A a) : ∃ sk st : Nat, vk_R "HomeSystemModel$Program" 11 "int" sk s ∧ oS A sk st 3 (fun j => ([105, 110, 116] : List Int32).getD j 0) s s.heap := str_of (bs := [105, 110, 116]) (by decide) (hts _ (List.mem_append_right _ m9_141n)) (fun c h => hN c (nf_take est_p_11 c h)) hA
set_option maxRecDepth 100000 in
theorem est_p_13 : (NF.drop 611).take 8 = strW "HomeSystemModel$Program" 13 [99, 104, 97, 114] := rfl
set_option maxRecDepth 100000 in
theorem st_p_13 {args : Array Value} {s : State} {A : Nat → Prop} (hN : ∀ c ∈ NF, c.before args s = true) (hts : ∀ w ∈ lw_tbl, w.before args s = true) (hA : ∀ a : Nat, a < s.heap.size → ¬ A a) : ∃ sk st : Nat, vk_R "HomeSystemModel$Program" 13 "char" sk s ∧ oS A sk st 4 (fun j => ([99, 104, 97, 114] : List Int32).getD j 0) s s.heap := str_of (bs := [99, 104, 97, 114]) (by decide) (hts _ (List.mem_append_right _ m9_142n)) (fun c h => hN c (nf_take est_p_13 c h)) hA
set_option maxRecDepth 100000 in
theorem est_p_15 : (NF.drop 619).take 8 = strW "HomeSystemModel$Program" 15 [118, 111, 105, 100] := rfl
set_option maxRecDepth 100000 in
theorem st_p_15 {args : Array Value} {s : State} {A : Nat → Prop} (hN : ∀ c ∈ NF, c.before args s = true) (hts : ∀ w ∈ lw_tbl, w.before args s = true) (hA : ∀ a : Nat, a < s.heap.size → ¬ A a) : ∃ sk st : Nat, vk_R "HomeSystemModel$Program" 15 "void" sk s ∧ oS A sk st 4 (fun j => ([118, 111, 105, 100] : List Int32).getD j 0) s s.heap := str_of (bs := [118, 111, 105, 100]) (by decide) (hts _ (List.mem_append_right _ m9_143n)) (fun c h => hN c (nf_take est_p_15 c h)) hA
set_option maxRecDepth 100000 in
theorem est_p_17 : (NF.drop 627).take 8 = strW "HomeSystemModel$Program" 17 [101, 110, 117, 109] := rfl
set_option maxRecDepth 100000 in
theorem st_p_17 {args : Array Value} {s : State} {A : Nat → Prop} (hN : ∀ c ∈ NF, c.before args s = true) (hts : ∀ w ∈ lw_tbl, w.before args s = true) (hA : ∀ a : Nat, a < s.heap.size → ¬ A a) : ∃ sk st : Nat, vk_R "HomeSystemModel$Program" 17 "enum" sk s ∧ oS A sk st 4 (fun j => ([101, 110, 117, 109] : List Int32).getD j 0) s s.heap := str_of (bs := [101, 110, 117, 109]) (by decide) (hts _ (List.mem_append_right _ m9_144n)) (fun c h => hN c (nf_take est_p_17 c h)) hA
set_option maxRecDepth 100000 in
theorem est_p_19 : (NF.drop 635).take 6 = strW "HomeSystemModel$Program" 19 [105, 102] := rfl
set_option maxRecDepth 100000 in
theorem st_p_19 {args : Array Value} {s : State} {A : Nat → Prop} (hN : ∀ c ∈ NF, c.before args s = true) (hts : ∀ w ∈ lw_tbl, w.before args s = true) (hA : ∀ a : Nat, a < s.heap.size → ¬ A a) : ∃ sk st : Nat, vk_R "HomeSystemModel$Program" 19 "if" sk s ∧ oS A sk st 2 (fun j => ([105, 102] : List Int32).getD j 0) s s.heap := str_of (bs := [105, 102]) (by decide) (hts _ (List.mem_append_right _ m9_145n)) (fun c h => hN c (nf_take est_p_19 c h)) hA
set_option maxRecDepth 100000 in
theorem est_p_21 : (NF.drop 641).take 8 = strW "HomeSystemModel$Program" 21 [101, 108, 115, 101] := rfl
set_option maxRecDepth 100000 in
theorem st_p_21 {args : Array Value} {s : State} {A : Nat → Prop} (hN : ∀ c ∈ NF, c.before args s = true) (hts : ∀ w ∈ lw_tbl, w.before args s = true) (hA : ∀ a : Nat, a < s.heap.size → ¬ A a) : ∃ sk st : Nat, vk_R "HomeSystemModel$Program" 21 "else" sk s ∧ oS A sk st 4 (fun j => ([101, 108, 115, 101] : List Int32).getD j 0) s s.heap := str_of (bs := [101, 108, 115, 101]) (by decide) (hts _ (List.mem_append_right _ m9_146n)) (fun c h => hN c (nf_take est_p_21 c h)) hA
set_option maxRecDepth 100000 in
theorem est_p_23 : (NF.drop 649).take 9 = strW "HomeSystemModel$Program" 23 [119, 104, 105, 108, 101] := rfl
set_option maxRecDepth 100000 in
theorem st_p_23 {args : Array Value} {s : State} {A : Nat → Prop} (hN : ∀ c ∈ NF, c.before args s = true) (hts : ∀ w ∈ lw_tbl, w.before args s = true) (hA : ∀ a : Nat, a < s.heap.size → ¬ A a) : ∃ sk st : Nat, vk_R "HomeSystemModel$Program" 23 "while" sk s ∧ oS A sk st 5 (fun j => ([119, 104, 105, 108, 101] : List Int32).getD j 0) s s.heap := str_of (bs := [119, 104, 105, 108, 101]) (by decide) (hts _ (List.mem_append_right _ m9_147n)) (fun c h => hN c (nf_take est_p_23 c h)) hA
set_option maxRecDepth 100000 in
theorem est_p_25 : (NF.drop 658).take 6 = strW "HomeSystemModel$Program" 25 [100, 111] := rfl
set_option maxRecDepth 100000 in
theorem st_p_25 {args : Array Value} {s : State} {A : Nat → Prop} (hN : ∀ c ∈ NF, c.before args s = true) (hts : ∀ w ∈ lw_tbl, w.before args s = true) (hA : ∀ a : Nat, a < s.heap.size → ¬ A a) : ∃ sk st : Nat, vk_R "HomeSystemModel$Program" 25 "do" sk s ∧ oS A sk st 2 (fun j => ([100, 111] : List Int32).getD j 0) s s.heap := str_of (bs := [100, 111]) (by decide) (hts _ (List.mem_append_right _ m9_148n)) (fun c h => hN c (nf_take est_p_25 c h)) hA
set_option maxRecDepth 100000 in
theorem est_p_27 : (NF.drop 664).take 7 = strW "HomeSystemModel$Program" 27 [102, 111, 114] := rfl
set_option maxRecDepth 100000 in
theorem st_p_27 {args : Array Value} {s : State} {A : Nat → Prop} (hN : ∀ c ∈ NF, c.before args s = true) (hts : ∀ w ∈ lw_tbl, w.before args s = true) (hA : ∀ a : Nat, a < s.heap.size → ¬ A a) : ∃ sk st : Nat, vk_R "HomeSystemModel$Program" 27 "for" sk s ∧ oS A sk st 3 (fun j => ([102, 111, 114] : List Int32).getD j 0) s s.heap := str_of (bs := [102, 111, 114]) (by decide) (hts _ (List.mem_append_right _ m9_149n)) (fun c h => hN c (nf_take est_p_27 c h)) hA
set_option maxRecDepth 100000 in
theorem est_p_29 : (NF.drop 671).take 10 = strW "HomeSystemModel$Program" 29 [115, 119, 105, 116, 99, 104] := rfl
set_option maxRecDepth 100000 in
theorem st_p_29 {args : Array Value} {s : State} {A : Nat → Prop} (hN : ∀ c ∈ NF, c.before args s = true) (hts : ∀ w ∈ lw_tbl, w.before args s = true) (hA : ∀ a : Nat, a < s.heap.size → ¬ A a) : ∃ sk st : Nat, vk_R "HomeSystemModel$Program" 29 "switch" sk s ∧ oS A sk st 6 (fun j => ([115, 119, 105, 116, 99, 104] : List Int32).getD j 0) s s.heap := str_of (bs := [115, 119, 105, 116, 99, 104]) (by decide) (hts _ (List.mem_append_right _ m9_150n)) (fun c h => hN c (nf_take est_p_29 c h)) hA
set_option maxRecDepth 100000 in
theorem est_p_31 : (NF.drop 681).take 8 = strW "HomeSystemModel$Program" 31 [99, 97, 115, 101] := rfl
set_option maxRecDepth 100000 in
theorem st_p_31 {args : Array Value} {s : State} {A : Nat → Prop} (hN : ∀ c ∈ NF, c.before args s = true) (hts : ∀ w ∈ lw_tbl, w.before args s = true) (hA : ∀ a : Nat, a < s.heap.size → ¬ A a) : ∃ sk st : Nat, vk_R "HomeSystemModel$Program" 31 "case" sk s ∧ oS A sk st 4 (fun j => ([99, 97, 115, 101] : List Int32).getD j 0) s s.heap := str_of (bs := [99, 97, 115, 101]) (by decide) (hts _ (List.mem_append_right _ m9_151n)) (fun c h => hN c (nf_take est_p_31 c h)) hA
set_option maxRecDepth 100000 in
theorem est_p_33 : (NF.drop 689).take 11 = strW "HomeSystemModel$Program" 33 [100, 101, 102, 97, 117, 108, 116] := rfl
set_option maxRecDepth 100000 in
theorem st_p_33 {args : Array Value} {s : State} {A : Nat → Prop} (hN : ∀ c ∈ NF, c.before args s = true) (hts : ∀ w ∈ lw_tbl, w.before args s = true) (hA : ∀ a : Nat, a < s.heap.size → ¬ A a) : ∃ sk st : Nat, vk_R "HomeSystemModel$Program" 33 "default" sk s ∧ oS A sk st 7 (fun j => ([100, 101, 102, 97, 117, 108, 116] : List Int32).getD j 0) s s.heap := str_of (bs := [100, 101, 102, 97, 117, 108, 116]) (by decide) (hts _ (List.mem_append_right _ m9_152n)) (fun c h => hN c (nf_take est_p_33 c h)) hA
set_option maxRecDepth 100000 in
theorem est_p_35 : (NF.drop 700).take 9 = strW "HomeSystemModel$Program" 35 [98, 114, 101, 97, 107] := rfl
set_option maxRecDepth 100000 in
theorem st_p_35 {args : Array Value} {s : State} {A : Nat → Prop} (hN : ∀ c ∈ NF, c.before args s = true) (hts : ∀ w ∈ lw_tbl, w.before args s = true) (hA : ∀ a : Nat, a < s.heap.size → ¬ A a) : ∃ sk st : Nat, vk_R "HomeSystemModel$Program" 35 "break" sk s ∧ oS A sk st 5 (fun j => ([98, 114, 101, 97, 107] : List Int32).getD j 0) s s.heap := str_of (bs := [98, 114, 101, 97, 107]) (by decide) (hts _ (List.mem_append_right _ m9_153n)) (fun c h => hN c (nf_take est_p_35 c h)) hA
set_option maxRecDepth 100000 in
theorem est_p_37 : (NF.drop 709).take 12 = strW "HomeSystemModel$Program" 37 [99, 111, 110, 116, 105, 110, 117, 101] := rfl
set_option maxRecDepth 100000 in
theorem st_p_37 {args : Array Value} {s : State} {A : Nat → Prop} (hN : ∀ c ∈ NF, c.before args s = true) (hts : ∀ w ∈ lw_tbl, w.before args s = true) (hA : ∀ a : Nat, a < s.heap.size → ¬ A a) : ∃ sk st : Nat, vk_R "HomeSystemModel$Program" 37 "continue" sk s ∧ oS A sk st 8 (fun j => ([99, 111, 110, 116, 105, 110, 117, 101] : List Int32).getD j 0) s s.heap := str_of (bs := [99, 111, 110, 116, 105, 110, 117, 101]) (by decide) (hts _ (List.mem_append_right _ m9_154n)) (fun c h => hN c (nf_take est_p_37 c h)) hA
set_option maxRecDepth 100000 in
theorem est_p_39 : (NF.drop 721).take 10 = strW "HomeSystemModel$Program" 39 [114, 101, 116, 117, 114, 110] := rfl
set_option maxRecDepth 100000 in
theorem st_p_39 {args : Array Value} {s : State} {A : Nat → Prop} (hN : ∀ c ∈ NF, c.before args s = true) (hts : ∀ w ∈ lw_tbl, w.before args s = true) (hA : ∀ a : Nat, a < s.heap.size → ¬ A a) : ∃ sk st : Nat, vk_R "HomeSystemModel$Program" 39 "return" sk s ∧ oS A sk st 6 (fun j => ([114, 101, 116, 117, 114, 110] : List Int32).getD j 0) s s.heap := str_of (bs := [114, 101, 116, 117, 114, 110]) (by decide) (hts _ (List.mem_append_right _ m9_155n)) (fun c h => hN c (nf_take est_p_39 c h)) hA
set_option maxRecDepth 100000 in
theorem est_p_47 : (NF.drop 731).take 7 = strW "HomeSystemModel$Program" 47 [60, 60, 61] := rfl
set_option maxRecDepth 100000 in
theorem st_p_47 {args : Array Value} {s : State} {A : Nat → Prop} (hN : ∀ c ∈ NF, c.before args s = true) (hts : ∀ w ∈ lw_tbl, w.before args s = true) (hA : ∀ a : Nat, a < s.heap.size → ¬ A a) : ∃ sk st : Nat, vk_R "HomeSystemModel$Program" 47 "<<=" sk s ∧ oS A sk st 3 (fun j => ([60, 60, 61] : List Int32).getD j 0) s s.heap := str_of (bs := [60, 60, 61]) (by decide) (hts _ (List.mem_append_right _ m9_156n)) (fun c h => hN c (nf_take est_p_47 c h)) hA
set_option maxRecDepth 100000 in
theorem est_p_49 : (NF.drop 738).take 7 = strW "HomeSystemModel$Program" 49 [62, 62, 61] := rfl
set_option maxRecDepth 100000 in
theorem st_p_49 {args : Array Value} {s : State} {A : Nat → Prop} (hN : ∀ c ∈ NF, c.before args s = true) (hts : ∀ w ∈ lw_tbl, w.before args s = true) (hA : ∀ a : Nat, a < s.heap.size → ¬ A a) : ∃ sk st : Nat, vk_R "HomeSystemModel$Program" 49 ">>=" sk s ∧ oS A sk st 3 (fun j => ([62, 62, 61] : List Int32).getD j 0) s s.heap := str_of (bs := [62, 62, 61]) (by decide) (hts _ (List.mem_append_right _ m9_157n)) (fun c h => hN c (nf_take est_p_49 c h)) hA
set_option maxRecDepth 100000 in
theorem est_p_51 : (NF.drop 745).take 6 = strW "HomeSystemModel$Program" 51 [43, 61] := rfl
set_option maxRecDepth 100000 in
theorem st_p_51 {args : Array Value} {s : State} {A : Nat → Prop} (hN : ∀ c ∈ NF, c.before args s = true) (hts : ∀ w ∈ lw_tbl, w.before args s = true) (hA : ∀ a : Nat, a < s.heap.size → ¬ A a) : ∃ sk st : Nat, vk_R "HomeSystemModel$Program" 51 "+=" sk s ∧ oS A sk st 2 (fun j => ([43, 61] : List Int32).getD j 0) s s.heap := str_of (bs := [43, 61]) (by decide) (hts _ (List.mem_append_right _ m9_158n)) (fun c h => hN c (nf_take est_p_51 c h)) hA
set_option maxRecDepth 100000 in
theorem est_p_53 : (NF.drop 751).take 6 = strW "HomeSystemModel$Program" 53 [45, 61] := rfl
set_option maxRecDepth 100000 in
theorem st_p_53 {args : Array Value} {s : State} {A : Nat → Prop} (hN : ∀ c ∈ NF, c.before args s = true) (hts : ∀ w ∈ lw_tbl, w.before args s = true) (hA : ∀ a : Nat, a < s.heap.size → ¬ A a) : ∃ sk st : Nat, vk_R "HomeSystemModel$Program" 53 "-=" sk s ∧ oS A sk st 2 (fun j => ([45, 61] : List Int32).getD j 0) s s.heap := str_of (bs := [45, 61]) (by decide) (hts _ (List.mem_append_right _ m9_159n)) (fun c h => hN c (nf_take est_p_53 c h)) hA
set_option maxRecDepth 100000 in
theorem est_p_55 : (NF.drop 757).take 6 = strW "HomeSystemModel$Program" 55 [42, 61] := rfl
set_option maxRecDepth 100000 in
theorem st_p_55 {args : Array Value} {s : State} {A : Nat → Prop} (hN : ∀ c ∈ NF, c.before args s = true) (hts : ∀ w ∈ lw_tbl, w.before args s = true) (hA : ∀ a : Nat, a < s.heap.size → ¬ A a) : ∃ sk st : Nat, vk_R "HomeSystemModel$Program" 55 "*=" sk s ∧ oS A sk st 2 (fun j => ([42, 61] : List Int32).getD j 0) s s.heap := str_of (bs := [42, 61]) (by decide) (hts _ (List.mem_append_right _ m9_160n)) (fun c h => hN c (nf_take est_p_55 c h)) hA
set_option maxRecDepth 100000 in
theorem est_p_57 : (NF.drop 763).take 6 = strW "HomeSystemModel$Program" 57 [47, 61] := rfl
set_option maxRecDepth 100000 in
theorem st_p_57 {args : Array Value} {s : State} {A : Nat → Prop} (hN : ∀ c ∈ NF, c.before args s = true) (hts : ∀ w ∈ lw_tbl, w.before args s = true) (hA : ∀ a : Nat, a < s.heap.size → ¬ A a) : ∃ sk st : Nat, vk_R "HomeSystemModel$Program" 57 "/=" sk s ∧ oS A sk st 2 (fun j => ([47, 61] : List Int32).getD j 0) s s.heap := str_of (bs := [47, 61]) (by decide) (hts _ (List.mem_append_right _ m9_161n)) (fun c h => hN c (nf_take est_p_57 c h)) hA
set_option maxRecDepth 100000 in
theorem est_p_59 : (NF.drop 769).take 6 = strW "HomeSystemModel$Program" 59 [37, 61] := rfl
set_option maxRecDepth 100000 in
theorem st_p_59 {args : Array Value} {s : State} {A : Nat → Prop} (hN : ∀ c ∈ NF, c.before args s = true) (hts : ∀ w ∈ lw_tbl, w.before args s = true) (hA : ∀ a : Nat, a < s.heap.size → ¬ A a) : ∃ sk st : Nat, vk_R "HomeSystemModel$Program" 59 "%=" sk s ∧ oS A sk st 2 (fun j => ([37, 61] : List Int32).getD j 0) s s.heap := str_of (bs := [37, 61]) (by decide) (hts _ (List.mem_append_right _ m9_162n)) (fun c h => hN c (nf_take est_p_59 c h)) hA
set_option maxRecDepth 100000 in
theorem est_p_61 : (NF.drop 775).take 6 = strW "HomeSystemModel$Program" 61 [38, 61] := rfl
set_option maxRecDepth 100000 in
theorem st_p_61 {args : Array Value} {s : State} {A : Nat → Prop} (hN : ∀ c ∈ NF, c.before args s = true) (hts : ∀ w ∈ lw_tbl, w.before args s = true) (hA : ∀ a : Nat, a < s.heap.size → ¬ A a) : ∃ sk st : Nat, vk_R "HomeSystemModel$Program" 61 "&=" sk s ∧ oS A sk st 2 (fun j => ([38, 61] : List Int32).getD j 0) s s.heap := str_of (bs := [38, 61]) (by decide) (hts _ (List.mem_append_right _ m9_163n)) (fun c h => hN c (nf_take est_p_61 c h)) hA
set_option maxRecDepth 100000 in
theorem est_p_63 : (NF.drop 781).take 6 = strW "HomeSystemModel$Program" 63 [124, 61] := rfl
set_option maxRecDepth 100000 in
theorem st_p_63 {args : Array Value} {s : State} {A : Nat → Prop} (hN : ∀ c ∈ NF, c.before args s = true) (hts : ∀ w ∈ lw_tbl, w.before args s = true) (hA : ∀ a : Nat, a < s.heap.size → ¬ A a) : ∃ sk st : Nat, vk_R "HomeSystemModel$Program" 63 "|=" sk s ∧ oS A sk st 2 (fun j => ([124, 61] : List Int32).getD j 0) s s.heap := str_of (bs := [124, 61]) (by decide) (hts _ (List.mem_append_right _ m9_164n)) (fun c h => hN c (nf_take est_p_63 c h)) hA
set_option maxRecDepth 100000 in
theorem est_p_65 : (NF.drop 787).take 6 = strW "HomeSystemModel$Program" 65 [94, 61] := rfl
set_option maxRecDepth 100000 in
theorem st_p_65 {args : Array Value} {s : State} {A : Nat → Prop} (hN : ∀ c ∈ NF, c.before args s = true) (hts : ∀ w ∈ lw_tbl, w.before args s = true) (hA : ∀ a : Nat, a < s.heap.size → ¬ A a) : ∃ sk st : Nat, vk_R "HomeSystemModel$Program" 65 "^=" sk s ∧ oS A sk st 2 (fun j => ([94, 61] : List Int32).getD j 0) s s.heap := str_of (bs := [94, 61]) (by decide) (hts _ (List.mem_append_right _ m9_165n)) (fun c h => hN c (nf_take est_p_65 c h)) hA
set_option maxRecDepth 100000 in
theorem est_p_67 : (NF.drop 793).take 6 = strW "HomeSystemModel$Program" 67 [124, 124] := rfl
set_option maxRecDepth 100000 in
theorem st_p_67 {args : Array Value} {s : State} {A : Nat → Prop} (hN : ∀ c ∈ NF, c.before args s = true) (hts : ∀ w ∈ lw_tbl, w.before args s = true) (hA : ∀ a : Nat, a < s.heap.size → ¬ A a) : ∃ sk st : Nat, vk_R "HomeSystemModel$Program" 67 "||" sk s ∧ oS A sk st 2 (fun j => ([124, 124] : List Int32).getD j 0) s s.heap := str_of (bs := [124, 124]) (by decide) (hts _ (List.mem_append_right _ m9_166n)) (fun c h => hN c (nf_take est_p_67 c h)) hA
set_option maxRecDepth 100000 in
theorem est_p_69 : (NF.drop 799).take 6 = strW "HomeSystemModel$Program" 69 [38, 38] := rfl
set_option maxRecDepth 100000 in
theorem st_p_69 {args : Array Value} {s : State} {A : Nat → Prop} (hN : ∀ c ∈ NF, c.before args s = true) (hts : ∀ w ∈ lw_tbl, w.before args s = true) (hA : ∀ a : Nat, a < s.heap.size → ¬ A a) : ∃ sk st : Nat, vk_R "HomeSystemModel$Program" 69 "&&" sk s ∧ oS A sk st 2 (fun j => ([38, 38] : List Int32).getD j 0) s s.heap := str_of (bs := [38, 38]) (by decide) (hts _ (List.mem_append_right _ m9_167n)) (fun c h => hN c (nf_take est_p_69 c h)) hA
set_option maxRecDepth 100000 in
theorem est_p_71 : (NF.drop 805).take 6 = strW "HomeSystemModel$Program" 71 [61, 61] := rfl
set_option maxRecDepth 100000 in
theorem st_p_71 {args : Array Value} {s : State} {A : Nat → Prop} (hN : ∀ c ∈ NF, c.before args s = true) (hts : ∀ w ∈ lw_tbl, w.before args s = true) (hA : ∀ a : Nat, a < s.heap.size → ¬ A a) : ∃ sk st : Nat, vk_R "HomeSystemModel$Program" 71 "==" sk s ∧ oS A sk st 2 (fun j => ([61, 61] : List Int32).getD j 0) s s.heap := str_of (bs := [61, 61]) (by decide) (hts _ (List.mem_append_right _ m9_168n)) (fun c h => hN c (nf_take est_p_71 c h)) hA
set_option maxRecDepth 100000 in
theorem est_p_73 : (NF.drop 811).take 6 = strW "HomeSystemModel$Program" 73 [33, 61] := rfl
set_option maxRecDepth 100000 in
theorem st_p_73 {args : Array Value} {s : State} {A : Nat → Prop} (hN : ∀ c ∈ NF, c.before args s = true) (hts : ∀ w ∈ lw_tbl, w.before args s = true) (hA : ∀ a : Nat, a < s.heap.size → ¬ A a) : ∃ sk st : Nat, vk_R "HomeSystemModel$Program" 73 "!=" sk s ∧ oS A sk st 2 (fun j => ([33, 61] : List Int32).getD j 0) s s.heap := str_of (bs := [33, 61]) (by decide) (hts _ (List.mem_append_right _ m9_169n)) (fun c h => hN c (nf_take est_p_73 c h)) hA
set_option maxRecDepth 100000 in
theorem est_p_75 : (NF.drop 817).take 6 = strW "HomeSystemModel$Program" 75 [60, 61] := rfl
set_option maxRecDepth 100000 in
theorem st_p_75 {args : Array Value} {s : State} {A : Nat → Prop} (hN : ∀ c ∈ NF, c.before args s = true) (hts : ∀ w ∈ lw_tbl, w.before args s = true) (hA : ∀ a : Nat, a < s.heap.size → ¬ A a) : ∃ sk st : Nat, vk_R "HomeSystemModel$Program" 75 "<=" sk s ∧ oS A sk st 2 (fun j => ([60, 61] : List Int32).getD j 0) s s.heap := str_of (bs := [60, 61]) (by decide) (hts _ (List.mem_append_right _ m9_170n)) (fun c h => hN c (nf_take est_p_75 c h)) hA
set_option maxRecDepth 100000 in
theorem est_p_77 : (NF.drop 823).take 6 = strW "HomeSystemModel$Program" 77 [62, 61] := rfl
set_option maxRecDepth 100000 in
theorem st_p_77 {args : Array Value} {s : State} {A : Nat → Prop} (hN : ∀ c ∈ NF, c.before args s = true) (hts : ∀ w ∈ lw_tbl, w.before args s = true) (hA : ∀ a : Nat, a < s.heap.size → ¬ A a) : ∃ sk st : Nat, vk_R "HomeSystemModel$Program" 77 ">=" sk s ∧ oS A sk st 2 (fun j => ([62, 61] : List Int32).getD j 0) s s.heap := str_of (bs := [62, 61]) (by decide) (hts _ (List.mem_append_right _ m9_171n)) (fun c h => hN c (nf_take est_p_77 c h)) hA
set_option maxRecDepth 100000 in
theorem est_p_79 : (NF.drop 829).take 6 = strW "HomeSystemModel$Program" 79 [60, 60] := rfl
set_option maxRecDepth 100000 in
theorem st_p_79 {args : Array Value} {s : State} {A : Nat → Prop} (hN : ∀ c ∈ NF, c.before args s = true) (hts : ∀ w ∈ lw_tbl, w.before args s = true) (hA : ∀ a : Nat, a < s.heap.size → ¬ A a) : ∃ sk st : Nat, vk_R "HomeSystemModel$Program" 79 "<<" sk s ∧ oS A sk st 2 (fun j => ([60, 60] : List Int32).getD j 0) s s.heap := str_of (bs := [60, 60]) (by decide) (hts _ (List.mem_append_right _ m9_172n)) (fun c h => hN c (nf_take est_p_79 c h)) hA
set_option maxRecDepth 100000 in
theorem est_p_81 : (NF.drop 835).take 6 = strW "HomeSystemModel$Program" 81 [62, 62] := rfl
set_option maxRecDepth 100000 in
theorem st_p_81 {args : Array Value} {s : State} {A : Nat → Prop} (hN : ∀ c ∈ NF, c.before args s = true) (hts : ∀ w ∈ lw_tbl, w.before args s = true) (hA : ∀ a : Nat, a < s.heap.size → ¬ A a) : ∃ sk st : Nat, vk_R "HomeSystemModel$Program" 81 ">>" sk s ∧ oS A sk st 2 (fun j => ([62, 62] : List Int32).getD j 0) s s.heap := str_of (bs := [62, 62]) (by decide) (hts _ (List.mem_append_right _ m9_173n)) (fun c h => hN c (nf_take est_p_81 c h)) hA
set_option maxRecDepth 100000 in
theorem est_p_83 : (NF.drop 841).take 6 = strW "HomeSystemModel$Program" 83 [43, 43] := rfl
set_option maxRecDepth 100000 in
theorem st_p_83 {args : Array Value} {s : State} {A : Nat → Prop} (hN : ∀ c ∈ NF, c.before args s = true) (hts : ∀ w ∈ lw_tbl, w.before args s = true) (hA : ∀ a : Nat, a < s.heap.size → ¬ A a) : ∃ sk st : Nat, vk_R "HomeSystemModel$Program" 83 "++" sk s ∧ oS A sk st 2 (fun j => ([43, 43] : List Int32).getD j 0) s s.heap := str_of (bs := [43, 43]) (by decide) (hts _ (List.mem_append_right _ m9_174n)) (fun c h => hN c (nf_take est_p_83 c h)) hA
set_option maxRecDepth 100000 in
theorem est_p_85 : (NF.drop 847).take 6 = strW "HomeSystemModel$Program" 85 [45, 45] := rfl
set_option maxRecDepth 100000 in
theorem st_p_85 {args : Array Value} {s : State} {A : Nat → Prop} (hN : ∀ c ∈ NF, c.before args s = true) (hts : ∀ w ∈ lw_tbl, w.before args s = true) (hA : ∀ a : Nat, a < s.heap.size → ¬ A a) : ∃ sk st : Nat, vk_R "HomeSystemModel$Program" 85 "--" sk s ∧ oS A sk st 2 (fun j => ([45, 45] : List Int32).getD j 0) s s.heap := str_of (bs := [45, 45]) (by decide) (hts _ (List.mem_append_right _ m9_175n)) (fun c h => hN c (nf_take est_p_85 c h)) hA
set_option maxRecDepth 100000 in
theorem est_p_87 : (NF.drop 853).take 5 = strW "HomeSystemModel$Program" 87 [40] := rfl
set_option maxRecDepth 100000 in
theorem st_p_87 {args : Array Value} {s : State} {A : Nat → Prop} (hN : ∀ c ∈ NF, c.before args s = true) (hts : ∀ w ∈ lw_tbl, w.before args s = true) (hA : ∀ a : Nat, a < s.heap.size → ¬ A a) : ∃ sk st : Nat, vk_R "HomeSystemModel$Program" 87 "(" sk s ∧ oS A sk st 1 (fun j => ([40] : List Int32).getD j 0) s s.heap := str_of (bs := [40]) (by decide) (hts _ (List.mem_append_right _ m9_176n)) (fun c h => hN c (nf_take est_p_87 c h)) hA
set_option maxRecDepth 100000 in
theorem est_p_89 : (NF.drop 858).take 5 = strW "HomeSystemModel$Program" 89 [41] := rfl
set_option maxRecDepth 100000 in
theorem st_p_89 {args : Array Value} {s : State} {A : Nat → Prop} (hN : ∀ c ∈ NF, c.before args s = true) (hts : ∀ w ∈ lw_tbl, w.before args s = true) (hA : ∀ a : Nat, a < s.heap.size → ¬ A a) : ∃ sk st : Nat, vk_R "HomeSystemModel$Program" 89 ")" sk s ∧ oS A sk st 1 (fun j => ([41] : List Int32).getD j 0) s s.heap := str_of (bs := [41]) (by decide) (hts _ (List.mem_append_right _ m9_177n)) (fun c h => hN c (nf_take est_p_89 c h)) hA
set_option maxRecDepth 100000 in
theorem est_p_91 : (NF.drop 864).take 5 = strW "HomeSystemModel$Program" 91 [123] := rfl
set_option maxRecDepth 100000 in
theorem st_p_91 {args : Array Value} {s : State} {A : Nat → Prop} (hN : ∀ c ∈ NF, c.before args s = true) (hts : ∀ w ∈ lw_tbl, w.before args s = true) (hA : ∀ a : Nat, a < s.heap.size → ¬ A a) : ∃ sk st : Nat, vk_R "HomeSystemModel$Program" 91 "{" sk s ∧ oS A sk st 1 (fun j => ([123] : List Int32).getD j 0) s s.heap := str_of (bs := [123]) (by decide) (hts _ (List.mem_append_right _ m9_178n)) (fun c h => hN c (nf_take est_p_91 c h)) hA
set_option maxRecDepth 100000 in
theorem est_p_93 : (NF.drop 869).take 5 = strW "HomeSystemModel$Program" 93 [125] := rfl
set_option maxRecDepth 100000 in
theorem st_p_93 {args : Array Value} {s : State} {A : Nat → Prop} (hN : ∀ c ∈ NF, c.before args s = true) (hts : ∀ w ∈ lw_tbl, w.before args s = true) (hA : ∀ a : Nat, a < s.heap.size → ¬ A a) : ∃ sk st : Nat, vk_R "HomeSystemModel$Program" 93 "}" sk s ∧ oS A sk st 1 (fun j => ([125] : List Int32).getD j 0) s s.heap := str_of (bs := [125]) (by decide) (hts _ (List.mem_append_right _ m9_179n)) (fun c h => hN c (nf_take est_p_93 c h)) hA
set_option maxRecDepth 100000 in
theorem est_p_95 : (NF.drop 874).take 5 = strW "HomeSystemModel$Program" 95 [91] := rfl
set_option maxRecDepth 100000 in
theorem st_p_95 {args : Array Value} {s : State} {A : Nat → Prop} (hN : ∀ c ∈ NF, c.before args s = true) (hts : ∀ w ∈ lw_tbl, w.before args s = true) (hA : ∀ a : Nat, a < s.heap.size → ¬ A a) : ∃ sk st : Nat, vk_R "HomeSystemModel$Program" 95 "[" sk s ∧ oS A sk st 1 (fun j => ([91] : List Int32).getD j 0) s s.heap := str_of (bs := [91]) (by decide) (hts _ (List.mem_append_right _ m9_180n)) (fun c h => hN c (nf_take est_p_95 c h)) hA
set_option maxRecDepth 100000 in
theorem est_p_97 : (NF.drop 879).take 5 = strW "HomeSystemModel$Program" 97 [93] := rfl
set_option maxRecDepth 100000 in
theorem st_p_97 {args : Array Value} {s : State} {A : Nat → Prop} (hN : ∀ c ∈ NF, c.before args s = true) (hts : ∀ w ∈ lw_tbl, w.before args s = true) (hA : ∀ a : Nat, a < s.heap.size → ¬ A a) : ∃ sk st : Nat, vk_R "HomeSystemModel$Program" 97 "]" sk s ∧ oS A sk st 1 (fun j => ([93] : List Int32).getD j 0) s s.heap := str_of (bs := [93]) (by decide) (hts _ (List.mem_append_right _ m9_181n)) (fun c h => hN c (nf_take est_p_97 c h)) hA
set_option maxRecDepth 100000 in
theorem est_p_99 : (NF.drop 884).take 5 = strW "HomeSystemModel$Program" 99 [44] := rfl
set_option maxRecDepth 100000 in
theorem st_p_99 {args : Array Value} {s : State} {A : Nat → Prop} (hN : ∀ c ∈ NF, c.before args s = true) (hts : ∀ w ∈ lw_tbl, w.before args s = true) (hA : ∀ a : Nat, a < s.heap.size → ¬ A a) : ∃ sk st : Nat, vk_R "HomeSystemModel$Program" 99 "," sk s ∧ oS A sk st 1 (fun j => ([44] : List Int32).getD j 0) s s.heap := str_of (bs := [44]) (by decide) (hts _ (List.mem_append_right _ m9_182n)) (fun c h => hN c (nf_take est_p_99 c h)) hA
set_option maxRecDepth 100000 in
theorem est_p_101 : (NF.drop 889).take 5 = strW "HomeSystemModel$Program" 101 [59] := rfl
set_option maxRecDepth 100000 in
theorem st_p_101 {args : Array Value} {s : State} {A : Nat → Prop} (hN : ∀ c ∈ NF, c.before args s = true) (hts : ∀ w ∈ lw_tbl, w.before args s = true) (hA : ∀ a : Nat, a < s.heap.size → ¬ A a) : ∃ sk st : Nat, vk_R "HomeSystemModel$Program" 101 ";" sk s ∧ oS A sk st 1 (fun j => ([59] : List Int32).getD j 0) s s.heap := str_of (bs := [59]) (by decide) (hts _ (List.mem_append_right _ m9_183n)) (fun c h => hN c (nf_take est_p_101 c h)) hA
set_option maxRecDepth 100000 in
theorem est_p_103 : (NF.drop 894).take 5 = strW "HomeSystemModel$Program" 103 [58] := rfl
set_option maxRecDepth 100000 in
theorem st_p_103 {args : Array Value} {s : State} {A : Nat → Prop} (hN : ∀ c ∈ NF, c.before args s = true) (hts : ∀ w ∈ lw_tbl, w.before args s = true) (hA : ∀ a : Nat, a < s.heap.size → ¬ A a) : ∃ sk st : Nat, vk_R "HomeSystemModel$Program" 103 ":" sk s ∧ oS A sk st 1 (fun j => ([58] : List Int32).getD j 0) s s.heap := str_of (bs := [58]) (by decide) (hts _ (List.mem_append_right _ m9_184n)) (fun c h => hN c (nf_take est_p_103 c h)) hA
set_option maxRecDepth 100000 in
theorem est_p_105 : (NF.drop 899).take 5 = strW "HomeSystemModel$Program" 105 [63] := rfl
set_option maxRecDepth 100000 in
theorem st_p_105 {args : Array Value} {s : State} {A : Nat → Prop} (hN : ∀ c ∈ NF, c.before args s = true) (hts : ∀ w ∈ lw_tbl, w.before args s = true) (hA : ∀ a : Nat, a < s.heap.size → ¬ A a) : ∃ sk st : Nat, vk_R "HomeSystemModel$Program" 105 "?" sk s ∧ oS A sk st 1 (fun j => ([63] : List Int32).getD j 0) s s.heap := str_of (bs := [63]) (by decide) (hts _ (List.mem_append_right _ m9_185n)) (fun c h => hN c (nf_take est_p_105 c h)) hA
set_option maxRecDepth 100000 in
theorem est_p_107 : (NF.drop 904).take 5 = strW "HomeSystemModel$Program" 107 [61] := rfl
set_option maxRecDepth 100000 in
theorem st_p_107 {args : Array Value} {s : State} {A : Nat → Prop} (hN : ∀ c ∈ NF, c.before args s = true) (hts : ∀ w ∈ lw_tbl, w.before args s = true) (hA : ∀ a : Nat, a < s.heap.size → ¬ A a) : ∃ sk st : Nat, vk_R "HomeSystemModel$Program" 107 "=" sk s ∧ oS A sk st 1 (fun j => ([61] : List Int32).getD j 0) s s.heap := str_of (bs := [61]) (by decide) (hts _ (List.mem_append_right _ m9_186n)) (fun c h => hN c (nf_take est_p_107 c h)) hA
set_option maxRecDepth 100000 in
theorem est_p_109 : (NF.drop 909).take 5 = strW "HomeSystemModel$Program" 109 [124] := rfl
set_option maxRecDepth 100000 in
theorem st_p_109 {args : Array Value} {s : State} {A : Nat → Prop} (hN : ∀ c ∈ NF, c.before args s = true) (hts : ∀ w ∈ lw_tbl, w.before args s = true) (hA : ∀ a : Nat, a < s.heap.size → ¬ A a) : ∃ sk st : Nat, vk_R "HomeSystemModel$Program" 109 "|" sk s ∧ oS A sk st 1 (fun j => ([124] : List Int32).getD j 0) s s.heap := str_of (bs := [124]) (by decide) (hts _ (List.mem_append_right _ m9_187n)) (fun c h => hN c (nf_take est_p_109 c h)) hA
set_option maxRecDepth 100000 in
theorem est_p_111 : (NF.drop 914).take 5 = strW "HomeSystemModel$Program" 111 [94] := rfl
set_option maxRecDepth 100000 in
theorem st_p_111 {args : Array Value} {s : State} {A : Nat → Prop} (hN : ∀ c ∈ NF, c.before args s = true) (hts : ∀ w ∈ lw_tbl, w.before args s = true) (hA : ∀ a : Nat, a < s.heap.size → ¬ A a) : ∃ sk st : Nat, vk_R "HomeSystemModel$Program" 111 "^" sk s ∧ oS A sk st 1 (fun j => ([94] : List Int32).getD j 0) s s.heap := str_of (bs := [94]) (by decide) (hts _ (List.mem_append_right _ m9_188n)) (fun c h => hN c (nf_take est_p_111 c h)) hA
set_option maxRecDepth 100000 in
theorem est_p_113 : (NF.drop 919).take 5 = strW "HomeSystemModel$Program" 113 [38] := rfl
set_option maxRecDepth 100000 in
theorem st_p_113 {args : Array Value} {s : State} {A : Nat → Prop} (hN : ∀ c ∈ NF, c.before args s = true) (hts : ∀ w ∈ lw_tbl, w.before args s = true) (hA : ∀ a : Nat, a < s.heap.size → ¬ A a) : ∃ sk st : Nat, vk_R "HomeSystemModel$Program" 113 "&" sk s ∧ oS A sk st 1 (fun j => ([38] : List Int32).getD j 0) s s.heap := str_of (bs := [38]) (by decide) (hts _ (List.mem_append_right _ m9_189n)) (fun c h => hN c (nf_take est_p_113 c h)) hA
set_option maxRecDepth 100000 in
theorem est_p_115 : (NF.drop 924).take 5 = strW "HomeSystemModel$Program" 115 [60] := rfl
set_option maxRecDepth 100000 in
theorem st_p_115 {args : Array Value} {s : State} {A : Nat → Prop} (hN : ∀ c ∈ NF, c.before args s = true) (hts : ∀ w ∈ lw_tbl, w.before args s = true) (hA : ∀ a : Nat, a < s.heap.size → ¬ A a) : ∃ sk st : Nat, vk_R "HomeSystemModel$Program" 115 "<" sk s ∧ oS A sk st 1 (fun j => ([60] : List Int32).getD j 0) s s.heap := str_of (bs := [60]) (by decide) (hts _ (List.mem_append_right _ m9_190n)) (fun c h => hN c (nf_take est_p_115 c h)) hA
set_option maxRecDepth 100000 in
theorem est_p_117 : (NF.drop 929).take 5 = strW "HomeSystemModel$Program" 117 [62] := rfl
set_option maxRecDepth 100000 in
theorem st_p_117 {args : Array Value} {s : State} {A : Nat → Prop} (hN : ∀ c ∈ NF, c.before args s = true) (hts : ∀ w ∈ lw_tbl, w.before args s = true) (hA : ∀ a : Nat, a < s.heap.size → ¬ A a) : ∃ sk st : Nat, vk_R "HomeSystemModel$Program" 117 ">" sk s ∧ oS A sk st 1 (fun j => ([62] : List Int32).getD j 0) s s.heap := str_of (bs := [62]) (by decide) (hts _ (List.mem_append_right _ m9_191n)) (fun c h => hN c (nf_take est_p_117 c h)) hA
set_option maxRecDepth 100000 in
theorem est_p_119 : (NF.drop 934).take 5 = strW "HomeSystemModel$Program" 119 [43] := rfl
set_option maxRecDepth 100000 in
theorem st_p_119 {args : Array Value} {s : State} {A : Nat → Prop} (hN : ∀ c ∈ NF, c.before args s = true) (hts : ∀ w ∈ lw_tbl, w.before args s = true) (hA : ∀ a : Nat, a < s.heap.size → ¬ A a) : ∃ sk st : Nat, vk_R "HomeSystemModel$Program" 119 "+" sk s ∧ oS A sk st 1 (fun j => ([43] : List Int32).getD j 0) s s.heap := str_of (bs := [43]) (by decide) (hts _ (List.mem_append_right _ m9_192n)) (fun c h => hN c (nf_take est_p_119 c h)) hA
set_option maxRecDepth 100000 in
theorem est_p_121 : (NF.drop 939).take 5 = strW "HomeSystemModel$Program" 121 [45] := rfl
set_option maxRecDepth 100000 in
theorem st_p_121 {args : Array Value} {s : State} {A : Nat → Prop} (hN : ∀ c ∈ NF, c.before args s = true) (hts : ∀ w ∈ lw_tbl, w.before args s = true) (hA : ∀ a : Nat, a < s.heap.size → ¬ A a) : ∃ sk st : Nat, vk_R "HomeSystemModel$Program" 121 "-" sk s ∧ oS A sk st 1 (fun j => ([45] : List Int32).getD j 0) s s.heap := str_of (bs := [45]) (by decide) (hts _ (List.mem_append_right _ m9_193n)) (fun c h => hN c (nf_take est_p_121 c h)) hA
set_option maxRecDepth 100000 in
theorem est_p_123 : (NF.drop 944).take 5 = strW "HomeSystemModel$Program" 123 [42] := rfl
set_option maxRecDepth 100000 in
theorem st_p_123 {args : Array Value} {s : State} {A : Nat → Prop} (hN : ∀ c ∈ NF, c.before args s = true) (hts : ∀ w ∈ lw_tbl, w.before args s = true) (hA : ∀ a : Nat, a < s.heap.size → ¬ A a) : ∃ sk st : Nat, vk_R "HomeSystemModel$Program" 123 "*" sk s ∧ oS A sk st 1 (fun j => ([42] : List Int32).getD j 0) s s.heap := str_of (bs := [42]) (by decide) (hts _ (List.mem_append_right _ m9_194n)) (fun c h => hN c (nf_take est_p_123 c h)) hA
set_option maxRecDepth 100000 in
theorem est_p_125 : (NF.drop 949).take 5 = strW "HomeSystemModel$Program" 125 [47] := rfl
set_option maxRecDepth 100000 in
theorem st_p_125 {args : Array Value} {s : State} {A : Nat → Prop} (hN : ∀ c ∈ NF, c.before args s = true) (hts : ∀ w ∈ lw_tbl, w.before args s = true) (hA : ∀ a : Nat, a < s.heap.size → ¬ A a) : ∃ sk st : Nat, vk_R "HomeSystemModel$Program" 125 "/" sk s ∧ oS A sk st 1 (fun j => ([47] : List Int32).getD j 0) s s.heap := str_of (bs := [47]) (by decide) (hts _ (List.mem_append_right _ m9_195n)) (fun c h => hN c (nf_take est_p_125 c h)) hA
set_option maxRecDepth 100000 in
theorem est_p_127 : (NF.drop 954).take 5 = strW "HomeSystemModel$Program" 127 [37] := rfl
set_option maxRecDepth 100000 in
theorem st_p_127 {args : Array Value} {s : State} {A : Nat → Prop} (hN : ∀ c ∈ NF, c.before args s = true) (hts : ∀ w ∈ lw_tbl, w.before args s = true) (hA : ∀ a : Nat, a < s.heap.size → ¬ A a) : ∃ sk st : Nat, vk_R "HomeSystemModel$Program" 127 "%" sk s ∧ oS A sk st 1 (fun j => ([37] : List Int32).getD j 0) s s.heap := str_of (bs := [37]) (by decide) (hts _ (List.mem_append_right _ m9_196n)) (fun c h => hN c (nf_take est_p_127 c h)) hA
set_option maxRecDepth 100000 in
theorem est_p_129 : (NF.drop 959).take 5 = strW "HomeSystemModel$Program" 129 [33] := rfl
set_option maxRecDepth 100000 in
theorem st_p_129 {args : Array Value} {s : State} {A : Nat → Prop} (hN : ∀ c ∈ NF, c.before args s = true) (hts : ∀ w ∈ lw_tbl, w.before args s = true) (hA : ∀ a : Nat, a < s.heap.size → ¬ A a) : ∃ sk st : Nat, vk_R "HomeSystemModel$Program" 129 "!" sk s ∧ oS A sk st 1 (fun j => ([33] : List Int32).getD j 0) s s.heap := str_of (bs := [33]) (by decide) (hts _ (List.mem_append_right _ m9_197n)) (fun c h => hN c (nf_take est_p_129 c h)) hA
set_option maxRecDepth 100000 in
theorem est_p_131 : (NF.drop 964).take 5 = strW "HomeSystemModel$Program" 131 [126] := rfl
set_option maxRecDepth 100000 in
theorem st_p_131 {args : Array Value} {s : State} {A : Nat → Prop} (hN : ∀ c ∈ NF, c.before args s = true) (hts : ∀ w ∈ lw_tbl, w.before args s = true) (hA : ∀ a : Nat, a < s.heap.size → ¬ A a) : ∃ sk st : Nat, vk_R "HomeSystemModel$Program" 131 "~" sk s ∧ oS A sk st 1 (fun j => ([126] : List Int32).getD j 0) s s.heap := str_of (bs := [126]) (by decide) (hts _ (List.mem_append_right _ m9_198n)) (fun c h => hN c (nf_take est_p_131 c h)) hA
set_option maxRecDepth 100000 in
theorem est_p_136 : (NF.drop 969).take 7 = strW "HomeSystemModel$Program" 136 [108, 101, 110] := rfl
set_option maxRecDepth 100000 in
theorem st_p_136 {args : Array Value} {s : State} {A : Nat → Prop} (hN : ∀ c ∈ NF, c.before args s = true) (hts : ∀ w ∈ lw_tbl, w.before args s = true) (hA : ∀ a : Nat, a < s.heap.size → ¬ A a) : ∃ sk st : Nat, vk_R "HomeSystemModel$Program" 136 "len" sk s ∧ oS A sk st 3 (fun j => ([108, 101, 110] : List Int32).getD j 0) s s.heap := str_of (bs := [108, 101, 110]) (by decide) (hts _ (List.mem_append_right _ m9_199n)) (fun c h => hN c (nf_take est_p_136 c h)) hA
set_option maxRecDepth 100000 in
theorem est_p_138 : (NF.drop 976).take 7 = strW "HomeSystemModel$Program" 138 [112, 117, 116] := rfl
set_option maxRecDepth 100000 in
theorem st_p_138 {args : Array Value} {s : State} {A : Nat → Prop} (hN : ∀ c ∈ NF, c.before args s = true) (hts : ∀ w ∈ lw_tbl, w.before args s = true) (hA : ∀ a : Nat, a < s.heap.size → ¬ A a) : ∃ sk st : Nat, vk_R "HomeSystemModel$Program" 138 "put" sk s ∧ oS A sk st 3 (fun j => ([112, 117, 116] : List Int32).getD j 0) s s.heap := str_of (bs := [112, 117, 116]) (by decide) (hts _ (List.mem_append_right _ m9_200n)) (fun c h => hN c (nf_take est_p_138 c h)) hA
set_option maxRecDepth 100000 in
theorem est_p_140 : (NF.drop 983).take 8 = strW "HomeSystemModel$Program" 140 [115, 101, 110, 100] := rfl
set_option maxRecDepth 100000 in
theorem st_p_140 {args : Array Value} {s : State} {A : Nat → Prop} (hN : ∀ c ∈ NF, c.before args s = true) (hts : ∀ w ∈ lw_tbl, w.before args s = true) (hA : ∀ a : Nat, a < s.heap.size → ¬ A a) : ∃ sk st : Nat, vk_R "HomeSystemModel$Program" 140 "send" sk s ∧ oS A sk st 4 (fun j => ([115, 101, 110, 100] : List Int32).getD j 0) s s.heap := str_of (bs := [115, 101, 110, 100]) (by decide) (hts _ (List.mem_append_right _ m9_201n)) (fun c h => hN c (nf_take est_p_140 c h)) hA
set_option maxRecDepth 100000 in
theorem est_p_142 : (NF.drop 991).take 8 = strW "HomeSystemModel$Program" 142 [114, 101, 99, 118] := rfl
set_option maxRecDepth 100000 in
theorem st_p_142 {args : Array Value} {s : State} {A : Nat → Prop} (hN : ∀ c ∈ NF, c.before args s = true) (hts : ∀ w ∈ lw_tbl, w.before args s = true) (hA : ∀ a : Nat, a < s.heap.size → ¬ A a) : ∃ sk st : Nat, vk_R "HomeSystemModel$Program" 142 "recv" sk s ∧ oS A sk st 4 (fun j => ([114, 101, 99, 118] : List Int32).getD j 0) s s.heap := str_of (bs := [114, 101, 99, 118]) (by decide) (hts _ (List.mem_append_right _ m9_202n)) (fun c h => hN c (nf_take est_p_142 c h)) hA
set_option maxRecDepth 100000 in
theorem est_p_144 : (NF.drop 999).take 8 = strW "HomeSystemModel$Program" 144 [109, 111, 114, 101] := rfl
set_option maxRecDepth 100000 in
theorem st_p_144 {args : Array Value} {s : State} {A : Nat → Prop} (hN : ∀ c ∈ NF, c.before args s = true) (hts : ∀ w ∈ lw_tbl, w.before args s = true) (hA : ∀ a : Nat, a < s.heap.size → ¬ A a) : ∃ sk st : Nat, vk_R "HomeSystemModel$Program" 144 "more" sk s ∧ oS A sk st 4 (fun j => ([109, 111, 114, 101] : List Int32).getD j 0) s s.heap := str_of (bs := [109, 111, 114, 101]) (by decide) (hts _ (List.mem_append_right _ m9_203n)) (fun c h => hN c (nf_take est_p_144 c h)) hA
set_option maxRecDepth 100000 in
theorem est_p_146 : (NF.drop 1007).take 9 = strW "HomeSystemModel$Program" 146 [115, 112, 97, 119, 110] := rfl
set_option maxRecDepth 100000 in
theorem st_p_146 {args : Array Value} {s : State} {A : Nat → Prop} (hN : ∀ c ∈ NF, c.before args s = true) (hts : ∀ w ∈ lw_tbl, w.before args s = true) (hA : ∀ a : Nat, a < s.heap.size → ¬ A a) : ∃ sk st : Nat, vk_R "HomeSystemModel$Program" 146 "spawn" sk s ∧ oS A sk st 5 (fun j => ([115, 112, 97, 119, 110] : List Int32).getD j 0) s s.heap := str_of (bs := [115, 112, 97, 119, 110]) (by decide) (hts _ (List.mem_append_right _ m9_204n)) (fun c h => hN c (nf_take est_p_146 c h)) hA
set_option maxRecDepth 100000 in
theorem est_p_148 : (NF.drop 1016).take 8 = strW "HomeSystemModel$Program" 148 [119, 97, 105, 116] := rfl
set_option maxRecDepth 100000 in
theorem st_p_148 {args : Array Value} {s : State} {A : Nat → Prop} (hN : ∀ c ∈ NF, c.before args s = true) (hts : ∀ w ∈ lw_tbl, w.before args s = true) (hA : ∀ a : Nat, a < s.heap.size → ¬ A a) : ∃ sk st : Nat, vk_R "HomeSystemModel$Program" 148 "wait" sk s ∧ oS A sk st 4 (fun j => ([119, 97, 105, 116] : List Int32).getD j 0) s s.heap := str_of (bs := [119, 97, 105, 116]) (by decide) (hts _ (List.mem_append_right _ m9_205n)) (fun c h => hN c (nf_take est_p_148 c h)) hA
set_option maxRecDepth 100000 in
theorem est_p_150 : (NF.drop 1024).take 7 = strW "HomeSystemModel$Program" 150 [103, 101, 116] := rfl
set_option maxRecDepth 100000 in
theorem st_p_150 {args : Array Value} {s : State} {A : Nat → Prop} (hN : ∀ c ∈ NF, c.before args s = true) (hts : ∀ w ∈ lw_tbl, w.before args s = true) (hA : ∀ a : Nat, a < s.heap.size → ¬ A a) : ∃ sk st : Nat, vk_R "HomeSystemModel$Program" 150 "get" sk s ∧ oS A sk st 3 (fun j => ([103, 101, 116] : List Int32).getD j 0) s s.heap := str_of (bs := [103, 101, 116]) (by decide) (hts _ (List.mem_append_right _ m9_206n)) (fun c h => hN c (nf_take est_p_150 c h)) hA
set_option maxRecDepth 100000 in
theorem est_p_152 : (NF.drop 1031).take 7 = strW "HomeSystemModel$Program" 152 [115, 101, 116] := rfl
set_option maxRecDepth 100000 in
theorem st_p_152 {args : Array Value} {s : State} {A : Nat → Prop} (hN : ∀ c ∈ NF, c.before args s = true) (hts : ∀ w ∈ lw_tbl, w.before args s = true) (hA : ∀ a : Nat, a < s.heap.size → ¬ A a) : ∃ sk st : Nat, vk_R "HomeSystemModel$Program" 152 "set" sk s ∧ oS A sk st 3 (fun j => ([115, 101, 116] : List Int32).getD j 0) s s.heap := str_of (bs := [115, 101, 116]) (by decide) (hts _ (List.mem_append_right _ m9_207n)) (fun c h => hN c (nf_take est_p_152 c h)) hA
set_option maxRecDepth 100000 in
theorem est_p_154 : (NF.drop 1038).take 7 = strW "HomeSystemModel$Program" 154 [101, 110, 100] := rfl
set_option maxRecDepth 100000 in
theorem st_p_154 {args : Array Value} {s : State} {A : Nat → Prop} (hN : ∀ c ∈ NF, c.before args s = true) (hts : ∀ w ∈ lw_tbl, w.before args s = true) (hA : ∀ a : Nat, a < s.heap.size → ¬ A a) : ∃ sk st : Nat, vk_R "HomeSystemModel$Program" 154 "end" sk s ∧ oS A sk st 3 (fun j => ([101, 110, 100] : List Int32).getD j 0) s s.heap := str_of (bs := [101, 110, 100]) (by decide) (hts _ (List.mem_append_right _ m9_208n)) (fun c h => hN c (nf_take est_p_154 c h)) hA
set_option maxRecDepth 100000 in
theorem est_p_156 : (NF.drop 1045).take 8 = strW "HomeSystemModel$Program" 156 [108, 111, 97, 100] := rfl
set_option maxRecDepth 100000 in
theorem st_p_156 {args : Array Value} {s : State} {A : Nat → Prop} (hN : ∀ c ∈ NF, c.before args s = true) (hts : ∀ w ∈ lw_tbl, w.before args s = true) (hA : ∀ a : Nat, a < s.heap.size → ¬ A a) : ∃ sk st : Nat, vk_R "HomeSystemModel$Program" 156 "load" sk s ∧ oS A sk st 4 (fun j => ([108, 111, 97, 100] : List Int32).getD j 0) s s.heap := str_of (bs := [108, 111, 97, 100]) (by decide) (hts _ (List.mem_append_right _ m9_209n)) (fun c h => hN c (nf_take est_p_156 c h)) hA
set_option maxRecDepth 100000 in
theorem est_p_158 : (NF.drop 1053).take 9 = strW "HomeSystemModel$Program" 158 [115, 116, 111, 114, 101] := rfl
set_option maxRecDepth 100000 in
theorem st_p_158 {args : Array Value} {s : State} {A : Nat → Prop} (hN : ∀ c ∈ NF, c.before args s = true) (hts : ∀ w ∈ lw_tbl, w.before args s = true) (hA : ∀ a : Nat, a < s.heap.size → ¬ A a) : ∃ sk st : Nat, vk_R "HomeSystemModel$Program" 158 "store" sk s ∧ oS A sk st 5 (fun j => ([115, 116, 111, 114, 101] : List Int32).getD j 0) s s.heap := str_of (bs := [115, 116, 111, 114, 101]) (by decide) (hts _ (List.mem_append_right _ m9_210n)) (fun c h => hN c (nf_take est_p_158 c h)) hA
set_option maxRecDepth 100000 in
theorem est_p_160 : (NF.drop 1062).take 11 = strW "HomeSystemModel$Program" 160 [99, 111, 110, 116, 114, 111, 108] := rfl
set_option maxRecDepth 100000 in
theorem st_p_160 {args : Array Value} {s : State} {A : Nat → Prop} (hN : ∀ c ∈ NF, c.before args s = true) (hts : ∀ w ∈ lw_tbl, w.before args s = true) (hA : ∀ a : Nat, a < s.heap.size → ¬ A a) : ∃ sk st : Nat, vk_R "HomeSystemModel$Program" 160 "control" sk s ∧ oS A sk st 7 (fun j => ([99, 111, 110, 116, 114, 111, 108] : List Int32).getD j 0) s s.heap := str_of (bs := [99, 111, 110, 116, 114, 111, 108]) (by decide) (hts _ (List.mem_append_right _ m9_211n)) (fun c h => hN c (nf_take est_p_160 c h)) hA
set_option maxRecDepth 100000 in
theorem est_p_162 : (NF.drop 1073).take 14 = strW "HomeSystemModel$Program" 162 [115, 101, 116, 99, 111, 110, 116, 114, 111, 108] := rfl
set_option maxRecDepth 100000 in
theorem st_p_162 {args : Array Value} {s : State} {A : Nat → Prop} (hN : ∀ c ∈ NF, c.before args s = true) (hts : ∀ w ∈ lw_tbl, w.before args s = true) (hA : ∀ a : Nat, a < s.heap.size → ¬ A a) : ∃ sk st : Nat, vk_R "HomeSystemModel$Program" 162 "setcontrol" sk s ∧ oS A sk st 10 (fun j => ([115, 101, 116, 99, 111, 110, 116, 114, 111, 108] : List Int32).getD j 0) s s.heap := str_of (bs := [115, 101, 116, 99, 111, 110, 116, 114, 111, 108]) (by decide) (hts _ (List.mem_append_right _ m9_212n)) (fun c h => hN c (nf_take est_p_162 c h)) hA
set_option maxRecDepth 100000 in
theorem est_p_164 : (NF.drop 1087).take 8 = strW "HomeSystemModel$Program" 164 [104, 111, 115, 116] := rfl
set_option maxRecDepth 100000 in
theorem st_p_164 {args : Array Value} {s : State} {A : Nat → Prop} (hN : ∀ c ∈ NF, c.before args s = true) (hts : ∀ w ∈ lw_tbl, w.before args s = true) (hA : ∀ a : Nat, a < s.heap.size → ¬ A a) : ∃ sk st : Nat, vk_R "HomeSystemModel$Program" 164 "host" sk s ∧ oS A sk st 4 (fun j => ([104, 111, 115, 116] : List Int32).getD j 0) s s.heap := str_of (bs := [104, 111, 115, 116]) (by decide) (hts _ (List.mem_append_right _ m9_213n)) (fun c h => hN c (nf_take est_p_164 c h)) hA
set_option maxRecDepth 100000 in
theorem est_p_169 : (NF.drop 1095).take 6 = strW "HomeSystemModel$Program" 169 [105, 97] := rfl
set_option maxRecDepth 100000 in
theorem st_p_169 {args : Array Value} {s : State} {A : Nat → Prop} (hN : ∀ c ∈ NF, c.before args s = true) (hts : ∀ w ∈ lw_tbl, w.before args s = true) (hA : ∀ a : Nat, a < s.heap.size → ¬ A a) : ∃ sk st : Nat, vk_R "HomeSystemModel$Program" 169 "ia" sk s ∧ oS A sk st 2 (fun j => ([105, 97] : List Int32).getD j 0) s s.heap := str_of (bs := [105, 97]) (by decide) (hts _ (List.mem_append_right _ m9_214n)) (fun c h => hN c (nf_take est_p_169 c h)) hA
set_option maxRecDepth 100000 in
theorem est_p_171 : (NF.drop 1101).take 6 = strW "HomeSystemModel$Program" 171 [118, 105] := rfl
set_option maxRecDepth 100000 in
theorem st_p_171 {args : Array Value} {s : State} {A : Nat → Prop} (hN : ∀ c ∈ NF, c.before args s = true) (hts : ∀ w ∈ lw_tbl, w.before args s = true) (hA : ∀ a : Nat, a < s.heap.size → ¬ A a) : ∃ sk st : Nat, vk_R "HomeSystemModel$Program" 171 "vi" sk s ∧ oS A sk st 2 (fun j => ([118, 105] : List Int32).getD j 0) s s.heap := str_of (bs := [118, 105]) (by decide) (hts _ (List.mem_append_right _ m9_215n)) (fun c h => hN c (nf_take est_p_171 c h)) hA
set_option maxRecDepth 100000 in
theorem est_p_173 : (NF.drop 1107).take 7 = strW "HomeSystemModel$Program" 173 [118, 105, 105] := rfl
set_option maxRecDepth 100000 in
theorem st_p_173 {args : Array Value} {s : State} {A : Nat → Prop} (hN : ∀ c ∈ NF, c.before args s = true) (hts : ∀ w ∈ lw_tbl, w.before args s = true) (hA : ∀ a : Nat, a < s.heap.size → ¬ A a) : ∃ sk st : Nat, vk_R "HomeSystemModel$Program" 173 "vii" sk s ∧ oS A sk st 3 (fun j => ([118, 105, 105] : List Int32).getD j 0) s s.heap := str_of (bs := [118, 105, 105]) (by decide) (hts _ (List.mem_append_right _ m9_216n)) (fun c h => hN c (nf_take est_p_173 c h)) hA
set_option maxRecDepth 100000 in
theorem est_p_175 : (NF.drop 1114).take 6 = strW "HomeSystemModel$Program" 175 [105, 105] := rfl
set_option maxRecDepth 100000 in
theorem st_p_175 {args : Array Value} {s : State} {A : Nat → Prop} (hN : ∀ c ∈ NF, c.before args s = true) (hts : ∀ w ∈ lw_tbl, w.before args s = true) (hA : ∀ a : Nat, a < s.heap.size → ¬ A a) : ∃ sk st : Nat, vk_R "HomeSystemModel$Program" 175 "ii" sk s ∧ oS A sk st 2 (fun j => ([105, 105] : List Int32).getD j 0) s s.heap := str_of (bs := [105, 105]) (by decide) (hts _ (List.mem_append_right _ m9_217n)) (fun c h => hN c (nf_take est_p_175 c h)) hA
set_option maxRecDepth 100000 in
theorem est_p_177 : (NF.drop 1120).take 7 = strW "HomeSystemModel$Program" 177 [105, 105, 105] := rfl
set_option maxRecDepth 100000 in
theorem st_p_177 {args : Array Value} {s : State} {A : Nat → Prop} (hN : ∀ c ∈ NF, c.before args s = true) (hts : ∀ w ∈ lw_tbl, w.before args s = true) (hA : ∀ a : Nat, a < s.heap.size → ¬ A a) : ∃ sk st : Nat, vk_R "HomeSystemModel$Program" 177 "iii" sk s ∧ oS A sk st 3 (fun j => ([105, 105, 105] : List Int32).getD j 0) s s.heap := str_of (bs := [105, 105, 105]) (by decide) (hts _ (List.mem_append_right _ m9_218n)) (fun c h => hN c (nf_take est_p_177 c h)) hA
set_option maxRecDepth 100000 in
theorem est_p_179 : (NF.drop 1127).take 7 = strW "HomeSystemModel$Program" 179 [118, 105, 115] := rfl
set_option maxRecDepth 100000 in
theorem st_p_179 {args : Array Value} {s : State} {A : Nat → Prop} (hN : ∀ c ∈ NF, c.before args s = true) (hts : ∀ w ∈ lw_tbl, w.before args s = true) (hA : ∀ a : Nat, a < s.heap.size → ¬ A a) : ∃ sk st : Nat, vk_R "HomeSystemModel$Program" 179 "vis" sk s ∧ oS A sk st 3 (fun j => ([118, 105, 115] : List Int32).getD j 0) s s.heap := str_of (bs := [118, 105, 115]) (by decide) (hts _ (List.mem_append_right _ m9_219n)) (fun c h => hN c (nf_take est_p_179 c h)) hA
set_option maxRecDepth 100000 in
theorem est_p_181 : (NF.drop 1134).take 6 = strW "HomeSystemModel$Program" 181 [105, 107] := rfl
set_option maxRecDepth 100000 in
theorem st_p_181 {args : Array Value} {s : State} {A : Nat → Prop} (hN : ∀ c ∈ NF, c.before args s = true) (hts : ∀ w ∈ lw_tbl, w.before args s = true) (hA : ∀ a : Nat, a < s.heap.size → ¬ A a) : ∃ sk st : Nat, vk_R "HomeSystemModel$Program" 181 "ik" sk s ∧ oS A sk st 2 (fun j => ([105, 107] : List Int32).getD j 0) s s.heap := str_of (bs := [105, 107]) (by decide) (hts _ (List.mem_append_right _ m9_220n)) (fun c h => hN c (nf_take est_p_181 c h)) hA
set_option maxRecDepth 100000 in
theorem est_p_183 : (NF.drop 1140).take 7 = strW "HomeSystemModel$Program" 183 [118, 107, 105] := rfl
set_option maxRecDepth 100000 in
theorem st_p_183 {args : Array Value} {s : State} {A : Nat → Prop} (hN : ∀ c ∈ NF, c.before args s = true) (hts : ∀ w ∈ lw_tbl, w.before args s = true) (hA : ∀ a : Nat, a < s.heap.size → ¬ A a) : ∃ sk st : Nat, vk_R "HomeSystemModel$Program" 183 "vki" sk s ∧ oS A sk st 3 (fun j => ([118, 107, 105] : List Int32).getD j 0) s s.heap := str_of (bs := [118, 107, 105]) (by decide) (hts _ (List.mem_append_right _ m9_221n)) (fun c h => hN c (nf_take est_p_183 c h)) hA
set_option maxRecDepth 100000 in
theorem est_p_185 : (NF.drop 1147).take 8 = strW "HomeSystemModel$Program" 185 [105, 105, 105, 105] := rfl
set_option maxRecDepth 100000 in
theorem st_p_185 {args : Array Value} {s : State} {A : Nat → Prop} (hN : ∀ c ∈ NF, c.before args s = true) (hts : ∀ w ∈ lw_tbl, w.before args s = true) (hA : ∀ a : Nat, a < s.heap.size → ¬ A a) : ∃ sk st : Nat, vk_R "HomeSystemModel$Program" 185 "iiii" sk s ∧ oS A sk st 4 (fun j => ([105, 105, 105, 105] : List Int32).getD j 0) s s.heap := str_of (bs := [105, 105, 105, 105]) (by decide) (hts _ (List.mem_append_right _ m9_222n)) (fun c h => hN c (nf_take est_p_185 c h)) hA
set_option maxRecDepth 100000 in
theorem est_p_688 : (NF.drop 1155).take 8 = strW "HomeSystemModel$Program" 688 [109, 97, 105, 110] := rfl
set_option maxRecDepth 100000 in
theorem st_p_688 {args : Array Value} {s : State} {A : Nat → Prop} (hN : ∀ c ∈ NF, c.before args s = true) (hts : ∀ w ∈ lw_tbl, w.before args s = true) (hA : ∀ a : Nat, a < s.heap.size → ¬ A a) : ∃ sk st : Nat, vk_R "HomeSystemModel$Program" 688 "main" sk s ∧ oS A sk st 4 (fun j => ([109, 97, 105, 110] : List Int32).getD j 0) s s.heap := str_of (bs := [109, 97, 105, 110]) (by decide) (hts _ (List.mem_append_right _ m13_74n)) (fun c h => hN c (nf_take est_p_688 c h)) hA
set_option maxRecDepth 100000 in
theorem est_q_186 : (NF.drop 1163).take 6 = strW "HomeSystemModel$Process" 186 [60, 60] := rfl
set_option maxRecDepth 100000 in
theorem st_q_186 {args : Array Value} {s : State} {A : Nat → Prop} (hN : ∀ c ∈ NF, c.before args s = true) (hts : ∀ w ∈ lw_tbl, w.before args s = true) (hA : ∀ a : Nat, a < s.heap.size → ¬ A a) : ∃ sk st : Nat, vk_R "HomeSystemModel$Process" 186 "<<" sk s ∧ oS A sk st 2 (fun j => ([60, 60] : List Int32).getD j 0) s s.heap := str_of (bs := [60, 60]) (by decide) (hts _ (List.mem_append_right _ m14_154n)) (fun c h => hN c (nf_take est_q_186 c h)) hA
set_option maxRecDepth 100000 in
theorem est_q_192 : (NF.drop 1170).take 6 = strW "HomeSystemModel$Process" 192 [62, 62] := rfl
set_option maxRecDepth 100000 in
theorem st_q_192 {args : Array Value} {s : State} {A : Nat → Prop} (hN : ∀ c ∈ NF, c.before args s = true) (hts : ∀ w ∈ lw_tbl, w.before args s = true) (hA : ∀ a : Nat, a < s.heap.size → ¬ A a) : ∃ sk st : Nat, vk_R "HomeSystemModel$Process" 192 ">>" sk s ∧ oS A sk st 2 (fun j => ([62, 62] : List Int32).getD j 0) s s.heap := str_of (bs := [62, 62]) (by decide) (hts _ (List.mem_append_right _ m14_156n)) (fun c h => hN c (nf_take est_q_192 c h)) hA
