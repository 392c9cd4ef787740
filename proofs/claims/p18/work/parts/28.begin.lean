theorem oz_b1de7dbe7e {a0 : Int} (h0 : a0 = 0) : 0 ≤ a0 := by omega
theorem oz_270f4ea0b1 {a0 : Int} (h0 : a0 = 0) : a0 ≤ 1 := by omega
theorem oz_40612aa3f6 {a0 a1 a2 : Int} (h0 : a1 ≤ 100) (h1 : a0 = 0) (h2 : a2 = 0) : a0 + a1 + a2 ≤ 100 := by omega
theorem m7_35 : Cond.methodLink "HomeSystem$RawProcess" 18 ⟨"HomeSystem$RawProcess", "reset", "()V"⟩ ∈ AL := AL_7 (List.mem_of_getElem? (i := 35) rfl) rfl
theorem m7_40 : Cond.code ⟨"HomeSystem$AnyProcess", "reset", "()V"⟩ prog_2_method_2_code 1 (Option.none : Option Jvm.ClassFile.FieldType) ∈ AL := AL_7 (List.mem_of_getElem? (i := 40) rfl) rfl
theorem m7_36 : Cond.sameMethod "HomeSystem$RawProcess" "HomeSystem$AnyProcess" "reset" "()V" ∈ AL := AL_7 (List.mem_of_getElem? (i := 36) rfl) rfl
theorem m7_39 : Cond.instanceMethod ⟨"HomeSystem$AnyProcess", "reset", "()V"⟩ ∈ AL := AL_7 (List.mem_of_getElem? (i := 39) rfl) rfl
theorem m7_38 : Cond.selects "HomeSystem$RawProcess" ⟨"HomeSystem$RawProcess", "reset", "()V"⟩ ⟨"HomeSystem$AnyProcess", "reset", "()V"⟩ ∈ AL := AL_7 (List.mem_of_getElem? (i := 38) rfl) rfl
theorem m7_41 : Cond.methodLink "HomeSystem$RawProcess" 22 ⟨"java/util/Arrays", "fill", "([II)V"⟩ ∈ AL := AL_7 (List.mem_of_getElem? (i := 41) rfl) rfl
theorem m6_111 : Cond.code ⟨"java/util/Arrays", "fill", "([II)V"⟩ prog_40_method_103_code 4 (Option.none : Option Jvm.ClassFile.FieldType) ∈ AL := AL_6 (List.mem_of_getElem? (i := 111) rfl) rfl
theorem m6_110 : Cond.static ⟨"java/util/Arrays", "fill", "([II)V"⟩ ∈ AL := AL_6 (List.mem_of_getElem? (i := 110) rfl) rfl
theorem m2_100 : Cond.fieldLink "HomeSystem$RawProcess" 29 "HomeSystem$Program" "code" "[I" ∈ AL := AL_2 (List.mem_of_getElem? (i := 100) rfl) rfl
theorem m7_47 : Cond.methodLink "HomeSystem$TextProcess" 21 ⟨"HomeSystem$TextProcess", "reset", "()V"⟩ ∈ AL := AL_7 (List.mem_of_getElem? (i := 47) rfl) rfl
theorem m7_48 : Cond.sameMethod "HomeSystem$TextProcess" "HomeSystem$AnyProcess" "reset" "()V" ∈ AL := AL_7 (List.mem_of_getElem? (i := 48) rfl) rfl
theorem m7_49 : Cond.selects "HomeSystem$TextProcess" ⟨"HomeSystem$TextProcess", "reset", "()V"⟩ ⟨"HomeSystem$AnyProcess", "reset", "()V"⟩ ∈ AL := AL_7 (List.mem_of_getElem? (i := 49) rfl) rfl
theorem m2_108 : Cond.fieldLink "HomeSystem$TextProcess" 36 "HomeSystem$Program" "start" "I" ∈ AL := AL_2 (List.mem_of_getElem? (i := 108) rfl) rfl
theorem m2_110 : Cond.fieldLink "HomeSystem$TextProcess" 56 "HomeSystem$Program" "globals" "I" ∈ AL := AL_2 (List.mem_of_getElem? (i := 110) rfl) rfl
theorem m7_51 : Cond.methodLink "HomeSystem$TextProcess" 65 ⟨"java/lang/Math", "max", "(II)I"⟩ ∈ AL := AL_7 (List.mem_of_getElem? (i := 51) rfl) rfl
theorem m7_52 : Cond.methodLink "HomeSystem$TextProcess" 68 ⟨"java/util/Arrays", "fill", "([IIII)V"⟩ ∈ AL := AL_7 (List.mem_of_getElem? (i := 52) rfl) rfl
theorem ga_Tok_0 (cs : Nat → ClassId) (h : Nat) (r : Nat → Nat) (o : Nat → Option Nat) (f : Nat → Int32) (a : Nat → Nat → Int32) (g : Nat → Nat → Option Nat) : (wd_Tok cs h r o f a g)[1]? = some (r 0, .inl (cs 0, 2049, .inl (a 0))) := rfl
theorem sa_Tok_0 (cs : Nat → ClassId) (h : Nat) (r : Nat → Nat) (o : Nat → Option Nat) (f : Nat → Int32) (a : Nat → Nat → Int32) (g : Nat → Nat → Option Nat) (X : Nat → Int32) : (wd_Tok cs h r o f a g).set 1 (r 0, .inl (cs 0, 2049, .inl X)) = wd_Tok cs h r o f (va_up a 0 X) g := rfl
theorem ga_Tok_1 (cs : Nat → ClassId) (h : Nat) (r : Nat → Nat) (o : Nat → Option Nat) (f : Nat → Int32) (a : Nat → Nat → Int32) (g : Nat → Nat → Option Nat) : (wd_Tok cs h r o f a g)[2]? = some (r 1, .inl (cs 0, 2049, .inl (a 1))) := rfl
theorem sa_Tok_1 (cs : Nat → ClassId) (h : Nat) (r : Nat → Nat) (o : Nat → Option Nat) (f : Nat → Int32) (a : Nat → Nat → Int32) (g : Nat → Nat → Option Nat) (X : Nat → Int32) : (wd_Tok cs h r o f a g).set 2 (r 1, .inl (cs 0, 2049, .inl X)) = wd_Tok cs h r o f (va_up a 1 X) g := rfl
theorem ga_Tok_2 (cs : Nat → ClassId) (h : Nat) (r : Nat → Nat) (o : Nat → Option Nat) (f : Nat → Int32) (a : Nat → Nat → Int32) (g : Nat → Nat → Option Nat) : (wd_Tok cs h r o f a g)[3]? = some (r 2, .inl (cs 0, 2049, .inl (a 2))) := rfl
theorem sa_Tok_2 (cs : Nat → ClassId) (h : Nat) (r : Nat → Nat) (o : Nat → Option Nat) (f : Nat → Int32) (a : Nat → Nat → Int32) (g : Nat → Nat → Option Nat) (X : Nat → Int32) : (wd_Tok cs h r o f a g).set 3 (r 2, .inl (cs 0, 2049, .inl X)) = wd_Tok cs h r o f (va_up a 2 X) g := rfl
theorem ga_Tok_3 (cs : Nat → ClassId) (h : Nat) (r : Nat → Nat) (o : Nat → Option Nat) (f : Nat → Int32) (a : Nat → Nat → Int32) (g : Nat → Nat → Option Nat) : (wd_Tok cs h r o f a g)[4]? = some (r 3, .inl (cs 2, 2181, .inl (a 3))) := rfl
theorem sa_Tok_3 (cs : Nat → ClassId) (h : Nat) (r : Nat → Nat) (o : Nat → Option Nat) (f : Nat → Int32) (a : Nat → Nat → Int32) (g : Nat → Nat → Option Nat) (X : Nat → Int32) : (wd_Tok cs h r o f a g).set 4 (r 3, .inl (cs 2, 2181, .inl X)) = wd_Tok cs h r o f (va_up a 3 X) g := rfl
theorem ga_Tok_4 (cs : Nat → ClassId) (h : Nat) (r : Nat → Nat) (o : Nat → Option Nat) (f : Nat → Int32) (a : Nat → Nat → Int32) (g : Nat → Nat → Option Nat) : (wd_Tok cs h r o f a g)[5]? = some (r 4, .inl (cs 0, 2074, .inl (a 4))) := rfl
theorem sa_Tok_4 (cs : Nat → ClassId) (h : Nat) (r : Nat → Nat) (o : Nat → Option Nat) (f : Nat → Int32) (a : Nat → Nat → Int32) (g : Nat → Nat → Option Nat) (X : Nat → Int32) : (wd_Tok cs h r o f a g).set 5 (r 4, .inl (cs 0, 2074, .inl X)) = wd_Tok cs h r o f (va_up a 4 X) g := rfl
theorem ga_Tok_5 (cs : Nat → ClassId) (h : Nat) (r : Nat → Nat) (o : Nat → Option Nat) (f : Nat → Int32) (a : Nat → Nat → Int32) (g : Nat → Nat → Option Nat) : (wd_Tok cs h r o f a g)[6]? = some (r 5, .inl (cs 0, 2048, .inl (a 5))) := rfl
theorem sa_Tok_5 (cs : Nat → ClassId) (h : Nat) (r : Nat → Nat) (o : Nat → Option Nat) (f : Nat → Int32) (a : Nat → Nat → Int32) (g : Nat → Nat → Option Nat) (X : Nat → Int32) : (wd_Tok cs h r o f a g).set 6 (r 5, .inl (cs 0, 2048, .inl X)) = wd_Tok cs h r o f (va_up a 5 X) g := rfl
theorem ga_Raw_0 (cs : Nat → ClassId) (h : Nat) (r : Nat → Nat) (o : Nat → Option Nat) (f : Nat → Int32) (a : Nat → Nat → Int32) (g : Nat → Nat → Option Nat) : (wd_Raw cs h r o f a g)[1]? = some (r 0, .inl (cs 0, 32, .inl (a 0))) := rfl
theorem sa_Raw_0 (cs : Nat → ClassId) (h : Nat) (r : Nat → Nat) (o : Nat → Option Nat) (f : Nat → Int32) (a : Nat → Nat → Int32) (g : Nat → Nat → Option Nat) (X : Nat → Int32) : (wd_Raw cs h r o f a g).set 1 (r 0, .inl (cs 0, 32, .inl X)) = wd_Raw cs h r o f (va_up a 0 X) g := rfl
theorem ga_Raw_1 (cs : Nat → ClassId) (h : Nat) (r : Nat → Nat) (o : Nat → Option Nat) (f : Nat → Int32) (a : Nat → Nat → Int32) (g : Nat → Nat → Option Nat) : (wd_Raw cs h r o f a g)[2]? = some (r 1, .inl (cs 0, 36, .inl (a 1))) := rfl
theorem sa_Raw_1 (cs : Nat → ClassId) (h : Nat) (r : Nat → Nat) (o : Nat → Option Nat) (f : Nat → Int32) (a : Nat → Nat → Int32) (g : Nat → Nat → Option Nat) (X : Nat → Int32) : (wd_Raw cs h r o f a g).set 2 (r 1, .inl (cs 0, 36, .inl X)) = wd_Raw cs h r o f (va_up a 1 X) g := rfl
theorem ga_Raw_9 (cs : Nat → ClassId) (h : Nat) (r : Nat → Nat) (o : Nat → Option Nat) (f : Nat → Int32) (a : Nat → Nat → Int32) (g : Nat → Nat → Option Nat) : (wd_Raw cs h r o f a g)[3]? = some (r 9, .inl (cs 0, 256, .inl (a 9))) := rfl
theorem sa_Raw_9 (cs : Nat → ClassId) (h : Nat) (r : Nat → Nat) (o : Nat → Option Nat) (f : Nat → Int32) (a : Nat → Nat → Int32) (g : Nat → Nat → Option Nat) (X : Nat → Int32) : (wd_Raw cs h r o f a g).set 3 (r 9, .inl (cs 0, 256, .inl X)) = wd_Raw cs h r o f (va_up a 9 X) g := rfl
theorem ga_Nam_2 (cs : Nat → ClassId) (h : Nat) (r : Nat → Nat) (o : Nat → Option Nat) (f : Nat → Int32) (a : Nat → Nat → Int32) (g : Nat → Nat → Option Nat) : (wd_Nam cs h r o f a g)[1]? = some (r 2, .inl (cs 0, 2048, .inl (a 2))) := rfl
theorem sa_Nam_2 (cs : Nat → ClassId) (h : Nat) (r : Nat → Nat) (o : Nat → Option Nat) (f : Nat → Int32) (a : Nat → Nat → Int32) (g : Nat → Nat → Option Nat) (X : Nat → Int32) : (wd_Nam cs h r o f a g).set 1 (r 2, .inl (cs 0, 2048, .inl X)) = wd_Nam cs h r o f (va_up a 2 X) g := rfl
theorem ga_Cmp_5 (cs : Nat → ClassId) (h : Nat) (r : Nat → Nat) (o : Nat → Option Nat) (f : Nat → Int32) (a : Nat → Nat → Int32) (g : Nat → Nat → Option Nat) : (wd_Cmp cs h r o f a g)[1]? = some (r 5, .inl (cs 0, 2048, .inl (a 5))) := rfl
theorem sa_Cmp_5 (cs : Nat → ClassId) (h : Nat) (r : Nat → Nat) (o : Nat → Option Nat) (f : Nat → Int32) (a : Nat → Nat → Int32) (g : Nat → Nat → Option Nat) (X : Nat → Int32) : (wd_Cmp cs h r o f a g).set 1 (r 5, .inl (cs 0, 2048, .inl X)) = wd_Cmp cs h r o f (va_up a 5 X) g := rfl
theorem ga_Cmp_6 (cs : Nat → ClassId) (h : Nat) (r : Nat → Nat) (o : Nat → Option Nat) (f : Nat → Int32) (a : Nat → Nat → Int32) (g : Nat → Nat → Option Nat) : (wd_Cmp cs h r o f a g)[2]? = some (r 6, .inl (cs 0, 2048, .inl (a 6))) := rfl
theorem sa_Cmp_6 (cs : Nat → ClassId) (h : Nat) (r : Nat → Nat) (o : Nat → Option Nat) (f : Nat → Int32) (a : Nat → Nat → Int32) (g : Nat → Nat → Option Nat) (X : Nat → Int32) : (wd_Cmp cs h r o f a g).set 2 (r 6, .inl (cs 0, 2048, .inl X)) = wd_Cmp cs h r o f (va_up a 6 X) g := rfl
theorem ga_Ker_0 (cs : Nat → ClassId) (h : Nat) (r : Nat → Nat) (o : Nat → Option Nat) (f : Nat → Int32) (a : Nat → Nat → Int32) (g : Nat → Nat → Option Nat) : (wd_Ker cs h r o f a g)[1]? = some (r 0, .inl (cs 5, 8, .inr (.inr (.inr (.inr (g 0)))))) := rfl
theorem sa_Ker_0 (cs : Nat → ClassId) (h : Nat) (r : Nat → Nat) (o : Nat → Option Nat) (f : Nat → Int32) (a : Nat → Nat → Int32) (g : Nat → Nat → Option Nat) (X : Nat → Option Nat) : (wd_Ker cs h r o f a g).set 1 (r 0, .inl (cs 5, 8, .inr (.inr (.inr (.inr X))))) = wd_Ker cs h r o f a (va_up g 0 X) := rfl
theorem ga_Ker_1 (cs : Nat → ClassId) (h : Nat) (r : Nat → Nat) (o : Nat → Option Nat) (f : Nat → Int32) (a : Nat → Nat → Int32) (g : Nat → Nat → Option Nat) : (wd_Ker cs h r o f a g)[2]? = some (r 1, .inl (cs 0, 128, .inl (a 1))) := rfl
theorem sa_Ker_1 (cs : Nat → ClassId) (h : Nat) (r : Nat → Nat) (o : Nat → Option Nat) (f : Nat → Int32) (a : Nat → Nat → Int32) (g : Nat → Nat → Option Nat) (X : Nat → Int32) : (wd_Ker cs h r o f a g).set 2 (r 1, .inl (cs 0, 128, .inl X)) = wd_Ker cs h r o f (va_up a 1 X) g := rfl
theorem ga_Ker_2 (cs : Nat → ClassId) (h : Nat) (r : Nat → Nat) (o : Nat → Option Nat) (f : Nat → Int32) (a : Nat → Nat → Int32) (g : Nat → Nat → Option Nat) : (wd_Ker cs h r o f a g)[3]? = some (r 2, .inl (cs 6, 13, .inr (.inr (.inr (.inr (g 2)))))) := rfl
theorem sa_Ker_2 (cs : Nat → ClassId) (h : Nat) (r : Nat → Nat) (o : Nat → Option Nat) (f : Nat → Int32) (a : Nat → Nat → Int32) (g : Nat → Nat → Option Nat) (X : Nat → Option Nat) : (wd_Ker cs h r o f a g).set 3 (r 2, .inl (cs 6, 13, .inr (.inr (.inr (.inr X))))) = wd_Ker cs h r o f a (va_up g 2 X) := rfl
theorem ga_Ker_3 (cs : Nat → ClassId) (h : Nat) (r : Nat → Nat) (o : Nat → Option Nat) (f : Nat → Int32) (a : Nat → Nat → Int32) (g : Nat → Nat → Option Nat) : (wd_Ker cs h r o f a g)[4]? = some (r 3, .inl (cs 7, 13, .inr (.inr (.inr (.inr (g 3)))))) := rfl
theorem sa_Ker_3 (cs : Nat → ClassId) (h : Nat) (r : Nat → Nat) (o : Nat → Option Nat) (f : Nat → Int32) (a : Nat → Nat → Int32) (g : Nat → Nat → Option Nat) (X : Nat → Option Nat) : (wd_Ker cs h r o f a g).set 4 (r 3, .inl (cs 7, 13, .inr (.inr (.inr (.inr X))))) = wd_Ker cs h r o f a (va_up g 3 X) := rfl
theorem ga_Ker_4 (cs : Nat → ClassId) (h : Nat) (r : Nat → Nat) (o : Nat → Option Nat) (f : Nat → Int32) (a : Nat → Nat → Int32) (g : Nat → Nat → Option Nat) : (wd_Ker cs h r o f a g)[5]? = some (r 4, .inl (cs 8, 13, .inr (.inr (.inr (.inr (g 4)))))) := rfl
theorem sa_Ker_4 (cs : Nat → ClassId) (h : Nat) (r : Nat → Nat) (o : Nat → Option Nat) (f : Nat → Int32) (a : Nat → Nat → Int32) (g : Nat → Nat → Option Nat) (X : Nat → Option Nat) : (wd_Ker cs h r o f a g).set 5 (r 4, .inl (cs 8, 13, .inr (.inr (.inr (.inr X))))) = wd_Ker cs h r o f a (va_up g 4 X) := rfl
theorem ga_Ker_5 (cs : Nat → ClassId) (h : Nat) (r : Nat → Nat) (o : Nat → Option Nat) (f : Nat → Int32) (a : Nat → Nat → Int32) (g : Nat → Nat → Option Nat) : (wd_Ker cs h r o f a g)[6]? = some (r 5, .inl (cs 0, 104, .inl (a 5))) := rfl
theorem sa_Ker_5 (cs : Nat → ClassId) (h : Nat) (r : Nat → Nat) (o : Nat → Option Nat) (f : Nat → Int32) (a : Nat → Nat → Int32) (g : Nat → Nat → Option Nat) (X : Nat → Int32) : (wd_Ker cs h r o f a g).set 6 (r 5, .inl (cs 0, 104, .inl X)) = wd_Ker cs h r o f (va_up a 5 X) g := rfl
theorem ga_Ker_6 (cs : Nat → ClassId) (h : Nat) (r : Nat → Nat) (o : Nat → Option Nat) (f : Nat → Int32) (a : Nat → Nat → Int32) (g : Nat → Nat → Option Nat) : (wd_Ker cs h r o f a g)[7]? = some (r 6, .inl (cs 0, 26, .inl (a 6))) := rfl
theorem sa_Ker_6 (cs : Nat → ClassId) (h : Nat) (r : Nat → Nat) (o : Nat → Option Nat) (f : Nat → Int32) (a : Nat → Nat → Int32) (g : Nat → Nat → Option Nat) (X : Nat → Int32) : (wd_Ker cs h r o f a g).set 7 (r 6, .inl (cs 0, 26, .inl X)) = wd_Ker cs h r o f (va_up a 6 X) g := rfl
theorem ga_Ker_7 (cs : Nat → ClassId) (h : Nat) (r : Nat → Nat) (o : Nat → Option Nat) (f : Nat → Int32) (a : Nat → Nat → Int32) (g : Nat → Nat → Option Nat) : (wd_Ker cs h r o f a g)[8]? = some (r 7, .inl (cs 0, 26, .inl (a 7))) := rfl
theorem sa_Ker_7 (cs : Nat → ClassId) (h : Nat) (r : Nat → Nat) (o : Nat → Option Nat) (f : Nat → Int32) (a : Nat → Nat → Int32) (g : Nat → Nat → Option Nat) (X : Nat → Int32) : (wd_Ker cs h r o f a g).set 8 (r 7, .inl (cs 0, 26, .inl X)) = wd_Ker cs h r o f (va_up a 7 X) g := rfl
theorem ga_Mo_1 (cs : Nat → ClassId) (h : Nat) (r : Nat → Nat) (o : Nat → Option Nat) (f : Nat → Int32) (a : Nat → Nat → Int32) (g : Nat → Nat → Option Nat) : (wd_Mo cs h r o f a g)[1]? = some (r 1, .inl (cs 1, 2048, .inl (a 1))) := rfl
theorem sa_Mo_1 (cs : Nat → ClassId) (h : Nat) (r : Nat → Nat) (o : Nat → Option Nat) (f : Nat → Int32) (a : Nat → Nat → Int32) (g : Nat → Nat → Option Nat) (X : Nat → Int32) : (wd_Mo cs h r o f a g).set 1 (r 1, .inl (cs 1, 2048, .inl X)) = wd_Mo cs h r o f (va_up a 1 X) g := rfl
theorem ga_Mo_4 (cs : Nat → ClassId) (h : Nat) (r : Nat → Nat) (o : Nat → Option Nat) (f : Nat → Int32) (a : Nat → Nat → Int32) (g : Nat → Nat → Option Nat) : (wd_Mo cs h r o f a g)[2]? = some (r 4, .inl (cs 9, 8, .inr (.inr (.inr (.inr (g 4)))))) := rfl
theorem sa_Mo_4 (cs : Nat → ClassId) (h : Nat) (r : Nat → Nat) (o : Nat → Option Nat) (f : Nat → Int32) (a : Nat → Nat → Int32) (g : Nat → Nat → Option Nat) (X : Nat → Option Nat) : (wd_Mo cs h r o f a g).set 2 (r 4, .inl (cs 9, 8, .inr (.inr (.inr (.inr X))))) = wd_Mo cs h r o f a (va_up g 4 X) := rfl
theorem ga_Mo_5 (cs : Nat → ClassId) (h : Nat) (r : Nat → Nat) (o : Nat → Option Nat) (f : Nat → Int32) (a : Nat → Nat → Int32) (g : Nat → Nat → Option Nat) : (wd_Mo cs h r o f a g)[3]? = some (r 5, .inl (cs 10, 13, .inr (.inr (.inr (.inr (g 5)))))) := rfl
theorem sa_Mo_5 (cs : Nat → ClassId) (h : Nat) (r : Nat → Nat) (o : Nat → Option Nat) (f : Nat → Int32) (a : Nat → Nat → Int32) (g : Nat → Nat → Option Nat) (X : Nat → Option Nat) : (wd_Mo cs h r o f a g).set 3 (r 5, .inl (cs 10, 13, .inr (.inr (.inr (.inr X))))) = wd_Mo cs h r o f a (va_up g 5 X) := rfl
theorem ga_Mo_6 (cs : Nat → ClassId) (h : Nat) (r : Nat → Nat) (o : Nat → Option Nat) (f : Nat → Int32) (a : Nat → Nat → Int32) (g : Nat → Nat → Option Nat) : (wd_Mo cs h r o f a g)[4]? = some (r 6, .inl (cs 0, 128, .inl (a 6))) := rfl
theorem sa_Mo_6 (cs : Nat → ClassId) (h : Nat) (r : Nat → Nat) (o : Nat → Option Nat) (f : Nat → Int32) (a : Nat → Nat → Int32) (g : Nat → Nat → Option Nat) (X : Nat → Int32) : (wd_Mo cs h r o f a g).set 4 (r 6, .inl (cs 0, 128, .inl X)) = wd_Mo cs h r o f (va_up a 6 X) g := rfl
theorem ga_Mpg_0 (cs : Nat → ClassId) (h : Nat) (r : Nat → Nat) (o : Nat → Option Nat) (f : Nat → Int32) (a : Nat → Nat → Int32) (g : Nat → Nat → Option Nat) : (wd_Mpg cs h r o f a g)[1]? = some (r 0, .inl (cs 11, 15, .inr (.inr (.inr (.inr (g 0)))))) := rfl
theorem sa_Mpg_0 (cs : Nat → ClassId) (h : Nat) (r : Nat → Nat) (o : Nat → Option Nat) (f : Nat → Int32) (a : Nat → Nat → Int32) (g : Nat → Nat → Option Nat) (X : Nat → Option Nat) : (wd_Mpg cs h r o f a g).set 1 (r 0, .inl (cs 11, 15, .inr (.inr (.inr (.inr X))))) = wd_Mpg cs h r o f a (va_up g 0 X) := rfl
theorem ga_Mpg_1 (cs : Nat → ClassId) (h : Nat) (r : Nat → Nat) (o : Nat → Option Nat) (f : Nat → Int32) (a : Nat → Nat → Int32) (g : Nat → Nat → Option Nat) : (wd_Mpg cs h r o f a g)[2]? = some (r 1, .inl (cs 11, 43, .inr (.inr (.inr (.inr (g 1)))))) := rfl
theorem sa_Mpg_1 (cs : Nat → ClassId) (h : Nat) (r : Nat → Nat) (o : Nat → Option Nat) (f : Nat → Int32) (a : Nat → Nat → Int32) (g : Nat → Nat → Option Nat) (X : Nat → Option Nat) : (wd_Mpg cs h r o f a g).set 2 (r 1, .inl (cs 11, 43, .inr (.inr (.inr (.inr X))))) = wd_Mpg cs h r o f a (va_up g 1 X) := rfl
theorem ga_Mpg_2 (cs : Nat → ClassId) (h : Nat) (r : Nat → Nat) (o : Nat → Option Nat) (f : Nat → Int32) (a : Nat → Nat → Int32) (g : Nat → Nat → Option Nat) : (wd_Mpg cs h r o f a g)[3]? = some (r 2, .inl (cs 11, 15, .inr (.inr (.inr (.inr (g 2)))))) := rfl
theorem sa_Mpg_2 (cs : Nat → ClassId) (h : Nat) (r : Nat → Nat) (o : Nat → Option Nat) (f : Nat → Int32) (a : Nat → Nat → Int32) (g : Nat → Nat → Option Nat) (X : Nat → Option Nat) : (wd_Mpg cs h r o f a g).set 3 (r 2, .inl (cs 11, 15, .inr (.inr (.inr (.inr X))))) = wd_Mpg cs h r o f a (va_up g 2 X) := rfl
theorem ga_Mpg_3 (cs : Nat → ClassId) (h : Nat) (r : Nat → Nat) (o : Nat → Option Nat) (f : Nat → Int32) (a : Nat → Nat → Int32) (g : Nat → Nat → Option Nat) : (wd_Mpg cs h r o f a g)[4]? = some (r 3, .inl (cs 11, 15, .inr (.inr (.inr (.inr (g 3)))))) := rfl
theorem sa_Mpg_3 (cs : Nat → ClassId) (h : Nat) (r : Nat → Nat) (o : Nat → Option Nat) (f : Nat → Int32) (a : Nat → Nat → Int32) (g : Nat → Nat → Option Nat) (X : Nat → Option Nat) : (wd_Mpg cs h r o f a g).set 4 (r 3, .inl (cs 11, 15, .inr (.inr (.inr (.inr X))))) = wd_Mpg cs h r o f a (va_up g 3 X) := rfl
theorem ga_Mpg_4 (cs : Nat → ClassId) (h : Nat) (r : Nat → Nat) (o : Nat → Option Nat) (f : Nat → Int32) (a : Nat → Nat → Int32) (g : Nat → Nat → Option Nat) : (wd_Mpg cs h r o f a g)[5]? = some (r 4, .inl (cs 1, 2048, .inl (a 4))) := rfl
theorem sa_Mpg_4 (cs : Nat → ClassId) (h : Nat) (r : Nat → Nat) (o : Nat → Option Nat) (f : Nat → Int32) (a : Nat → Nat → Int32) (g : Nat → Nat → Option Nat) (X : Nat → Int32) : (wd_Mpg cs h r o f a g).set 5 (r 4, .inl (cs 1, 2048, .inl X)) = wd_Mpg cs h r o f (va_up a 4 X) g := rfl
theorem ga_Mpg_7 (cs : Nat → ClassId) (h : Nat) (r : Nat → Nat) (o : Nat → Option Nat) (f : Nat → Int32) (a : Nat → Nat → Int32) (g : Nat → Nat → Option Nat) : (wd_Mpg cs h r o f a g)[6]? = some (r 7, .inl (cs 0, 2060, .inl (a 7))) := rfl
theorem sa_Mpg_7 (cs : Nat → ClassId) (h : Nat) (r : Nat → Nat) (o : Nat → Option Nat) (f : Nat → Int32) (a : Nat → Nat → Int32) (g : Nat → Nat → Option Nat) (X : Nat → Int32) : (wd_Mpg cs h r o f a g).set 6 (r 7, .inl (cs 0, 2060, .inl X)) = wd_Mpg cs h r o f (va_up a 7 X) g := rfl
theorem ga_Mpg_8 (cs : Nat → ClassId) (h : Nat) (r : Nat → Nat) (o : Nat → Option Nat) (f : Nat → Int32) (a : Nat → Nat → Int32) (g : Nat → Nat → Option Nat) : (wd_Mpg cs h r o f a g)[7]? = some (r 8, .inl (cs 0, 2060, .inl (a 8))) := rfl
theorem sa_Mpg_8 (cs : Nat → ClassId) (h : Nat) (r : Nat → Nat) (o : Nat → Option Nat) (f : Nat → Int32) (a : Nat → Nat → Int32) (g : Nat → Nat → Option Nat) (X : Nat → Int32) : (wd_Mpg cs h r o f a g).set 7 (r 8, .inl (cs 0, 2060, .inl X)) = wd_Mpg cs h r o f (va_up a 8 X) g := rfl
theorem ga_Mpg_9 (cs : Nat → ClassId) (h : Nat) (r : Nat → Nat) (o : Nat → Option Nat) (f : Nat → Int32) (a : Nat → Nat → Int32) (g : Nat → Nat → Option Nat) : (wd_Mpg cs h r o f a g)[8]? = some (r 9, .inl (cs 1, 2060, .inl (a 9))) := rfl
theorem sa_Mpg_9 (cs : Nat → ClassId) (h : Nat) (r : Nat → Nat) (o : Nat → Option Nat) (f : Nat → Int32) (a : Nat → Nat → Int32) (g : Nat → Nat → Option Nat) (X : Nat → Int32) : (wd_Mpg cs h r o f a g).set 8 (r 9, .inl (cs 1, 2060, .inl X)) = wd_Mpg cs h r o f (va_up a 9 X) g := rfl
theorem ga_Mpg_10 (cs : Nat → ClassId) (h : Nat) (r : Nat → Nat) (o : Nat → Option Nat) (f : Nat → Int32) (a : Nat → Nat → Int32) (g : Nat → Nat → Option Nat) : (wd_Mpg cs h r o f a g)[9]? = some (r 10, .inl (cs 0, 2060, .inl (a 10))) := rfl
theorem sa_Mpg_10 (cs : Nat → ClassId) (h : Nat) (r : Nat → Nat) (o : Nat → Option Nat) (f : Nat → Int32) (a : Nat → Nat → Int32) (g : Nat → Nat → Option Nat) (X : Nat → Int32) : (wd_Mpg cs h r o f a g).set 9 (r 10, .inl (cs 0, 2060, .inl X)) = wd_Mpg cs h r o f (va_up a 10 X) g := rfl
theorem ga_Mpg_14 (cs : Nat → ClassId) (h : Nat) (r : Nat → Nat) (o : Nat → Option Nat) (f : Nat → Int32) (a : Nat → Nat → Int32) (g : Nat → Nat → Option Nat) : (wd_Mpg cs h r o f a g)[10]? = some (r 14, .inl (cs 1, 2100, .inl (a 14))) := rfl
theorem sa_Mpg_14 (cs : Nat → ClassId) (h : Nat) (r : Nat → Nat) (o : Nat → Option Nat) (f : Nat → Int32) (a : Nat → Nat → Int32) (g : Nat → Nat → Option Nat) (X : Nat → Int32) : (wd_Mpg cs h r o f a g).set 10 (r 14, .inl (cs 1, 2100, .inl X)) = wd_Mpg cs h r o f (va_up a 14 X) g := rfl
theorem ga_Mpg_15 (cs : Nat → ClassId) (h : Nat) (r : Nat → Nat) (o : Nat → Option Nat) (f : Nat → Int32) (a : Nat → Nat → Int32) (g : Nat → Nat → Option Nat) : (wd_Mpg cs h r o f a g)[11]? = some (r 15, .inl (cs 0, 2100, .inl (a 15))) := rfl
theorem sa_Mpg_15 (cs : Nat → ClassId) (h : Nat) (r : Nat → Nat) (o : Nat → Option Nat) (f : Nat → Int32) (a : Nat → Nat → Int32) (g : Nat → Nat → Option Nat) (X : Nat → Int32) : (wd_Mpg cs h r o f a g).set 11 (r 15, .inl (cs 0, 2100, .inl X)) = wd_Mpg cs h r o f (va_up a 15 X) g := rfl
theorem ga_Mpg_16 (cs : Nat → ClassId) (h : Nat) (r : Nat → Nat) (o : Nat → Option Nat) (f : Nat → Int32) (a : Nat → Nat → Int32) (g : Nat → Nat → Option Nat) : (wd_Mpg cs h r o f a g)[12]? = some (r 16, .inl (cs 0, 2100, .inl (a 16))) := rfl
theorem sa_Mpg_16 (cs : Nat → ClassId) (h : Nat) (r : Nat → Nat) (o : Nat → Option Nat) (f : Nat → Int32) (a : Nat → Nat → Int32) (g : Nat → Nat → Option Nat) (X : Nat → Int32) : (wd_Mpg cs h r o f a g).set 12 (r 16, .inl (cs 0, 2100, .inl X)) = wd_Mpg cs h r o f (va_up a 16 X) g := rfl
theorem ga_Mpg_17 (cs : Nat → ClassId) (h : Nat) (r : Nat → Nat) (o : Nat → Option Nat) (f : Nat → Int32) (a : Nat → Nat → Int32) (g : Nat → Nat → Option Nat) : (wd_Mpg cs h r o f a g)[13]? = some (r 17, .inl (cs 0, 2100, .inl (a 17))) := rfl
theorem sa_Mpg_17 (cs : Nat → ClassId) (h : Nat) (r : Nat → Nat) (o : Nat → Option Nat) (f : Nat → Int32) (a : Nat → Nat → Int32) (g : Nat → Nat → Option Nat) (X : Nat → Int32) : (wd_Mpg cs h r o f a g).set 13 (r 17, .inl (cs 0, 2100, .inl X)) = wd_Mpg cs h r o f (va_up a 17 X) g := rfl
theorem ga_Mpg_18 (cs : Nat → ClassId) (h : Nat) (r : Nat → Nat) (o : Nat → Option Nat) (f : Nat → Int32) (a : Nat → Nat → Int32) (g : Nat → Nat → Option Nat) : (wd_Mpg cs h r o f a g)[14]? = some (r 18, .inl (cs 0, 2100, .inl (a 18))) := rfl
theorem sa_Mpg_18 (cs : Nat → ClassId) (h : Nat) (r : Nat → Nat) (o : Nat → Option Nat) (f : Nat → Int32) (a : Nat → Nat → Int32) (g : Nat → Nat → Option Nat) (X : Nat → Int32) : (wd_Mpg cs h r o f a g).set 14 (r 18, .inl (cs 0, 2100, .inl X)) = wd_Mpg cs h r o f (va_up a 18 X) g := rfl
theorem ga_Mpg_19 (cs : Nat → ClassId) (h : Nat) (r : Nat → Nat) (o : Nat → Option Nat) (f : Nat → Int32) (a : Nat → Nat → Int32) (g : Nat → Nat → Option Nat) : (wd_Mpg cs h r o f a g)[15]? = some (r 19, .inl (cs 0, 2100, .inl (a 19))) := rfl
theorem sa_Mpg_19 (cs : Nat → ClassId) (h : Nat) (r : Nat → Nat) (o : Nat → Option Nat) (f : Nat → Int32) (a : Nat → Nat → Int32) (g : Nat → Nat → Option Nat) (X : Nat → Int32) : (wd_Mpg cs h r o f a g).set 15 (r 19, .inl (cs 0, 2100, .inl X)) = wd_Mpg cs h r o f (va_up a 19 X) g := rfl
theorem ga_Mpg_20 (cs : Nat → ClassId) (h : Nat) (r : Nat → Nat) (o : Nat → Option Nat) (f : Nat → Int32) (a : Nat → Nat → Int32) (g : Nat → Nat → Option Nat) : (wd_Mpg cs h r o f a g)[16]? = some (r 20, .inl (cs 0, 2100, .inl (a 20))) := rfl
theorem sa_Mpg_20 (cs : Nat → ClassId) (h : Nat) (r : Nat → Nat) (o : Nat → Option Nat) (f : Nat → Int32) (a : Nat → Nat → Int32) (g : Nat → Nat → Option Nat) (X : Nat → Int32) : (wd_Mpg cs h r o f a g).set 16 (r 20, .inl (cs 0, 2100, .inl X)) = wd_Mpg cs h r o f (va_up a 20 X) g := rfl
theorem ga_Mpg_21 (cs : Nat → ClassId) (h : Nat) (r : Nat → Nat) (o : Nat → Option Nat) (f : Nat → Int32) (a : Nat → Nat → Int32) (g : Nat → Nat → Option Nat) : (wd_Mpg cs h r o f a g)[17]? = some (r 21, .inl (cs 0, 2100, .inl (a 21))) := rfl
theorem sa_Mpg_21 (cs : Nat → ClassId) (h : Nat) (r : Nat → Nat) (o : Nat → Option Nat) (f : Nat → Int32) (a : Nat → Nat → Int32) (g : Nat → Nat → Option Nat) (X : Nat → Int32) : (wd_Mpg cs h r o f a g).set 17 (r 21, .inl (cs 0, 2100, .inl X)) = wd_Mpg cs h r o f (va_up a 21 X) g := rfl
theorem ga_Mpg_22 (cs : Nat → ClassId) (h : Nat) (r : Nat → Nat) (o : Nat → Option Nat) (f : Nat → Int32) (a : Nat → Nat → Int32) (g : Nat → Nat → Option Nat) : (wd_Mpg cs h r o f a g)[18]? = some (r 22, .inl (cs 0, 2100, .inl (a 22))) := rfl
theorem sa_Mpg_22 (cs : Nat → ClassId) (h : Nat) (r : Nat → Nat) (o : Nat → Option Nat) (f : Nat → Int32) (a : Nat → Nat → Int32) (g : Nat → Nat → Option Nat) (X : Nat → Int32) : (wd_Mpg cs h r o f a g).set 18 (r 22, .inl (cs 0, 2100, .inl X)) = wd_Mpg cs h r o f (va_up a 22 X) g := rfl
theorem ga_Mpg_23 (cs : Nat → ClassId) (h : Nat) (r : Nat → Nat) (o : Nat → Option Nat) (f : Nat → Int32) (a : Nat → Nat → Int32) (g : Nat → Nat → Option Nat) : (wd_Mpg cs h r o f a g)[19]? = some (r 23, .inl (cs 0, 2100, .inl (a 23))) := rfl
theorem sa_Mpg_23 (cs : Nat → ClassId) (h : Nat) (r : Nat → Nat) (o : Nat → Option Nat) (f : Nat → Int32) (a : Nat → Nat → Int32) (g : Nat → Nat → Option Nat) (X : Nat → Int32) : (wd_Mpg cs h r o f a g).set 19 (r 23, .inl (cs 0, 2100, .inl X)) = wd_Mpg cs h r o f (va_up a 23 X) g := rfl
theorem ga_Mpg_27 (cs : Nat → ClassId) (h : Nat) (r : Nat → Nat) (o : Nat → Option Nat) (f : Nat → Int32) (a : Nat → Nat → Int32) (g : Nat → Nat → Option Nat) : (wd_Mpg cs h r o f a g)[20]? = some (r 27, .inl (cs 0, 700, .inl (a 27))) := rfl
theorem sa_Mpg_27 (cs : Nat → ClassId) (h : Nat) (r : Nat → Nat) (o : Nat → Option Nat) (f : Nat → Int32) (a : Nat → Nat → Int32) (g : Nat → Nat → Option Nat) (X : Nat → Int32) : (wd_Mpg cs h r o f a g).set 20 (r 27, .inl (cs 0, 700, .inl X)) = wd_Mpg cs h r o f (va_up a 27 X) g := rfl
theorem ga_Mpg_28 (cs : Nat → ClassId) (h : Nat) (r : Nat → Nat) (o : Nat → Option Nat) (f : Nat → Int32) (a : Nat → Nat → Int32) (g : Nat → Nat → Option Nat) : (wd_Mpg cs h r o f a g)[21]? = some (r 28, .inl (cs 0, 700, .inl (a 28))) := rfl
theorem sa_Mpg_28 (cs : Nat → ClassId) (h : Nat) (r : Nat → Nat) (o : Nat → Option Nat) (f : Nat → Int32) (a : Nat → Nat → Int32) (g : Nat → Nat → Option Nat) (X : Nat → Int32) : (wd_Mpg cs h r o f a g).set 21 (r 28, .inl (cs 0, 700, .inl X)) = wd_Mpg cs h r o f (va_up a 28 X) g := rfl
theorem ga_Mpg_29 (cs : Nat → ClassId) (h : Nat) (r : Nat → Nat) (o : Nat → Option Nat) (f : Nat → Int32) (a : Nat → Nat → Int32) (g : Nat → Nat → Option Nat) : (wd_Mpg cs h r o f a g)[22]? = some (r 29, .inl (cs 0, 700, .inl (a 29))) := rfl
theorem sa_Mpg_29 (cs : Nat → ClassId) (h : Nat) (r : Nat → Nat) (o : Nat → Option Nat) (f : Nat → Int32) (a : Nat → Nat → Int32) (g : Nat → Nat → Option Nat) (X : Nat → Int32) : (wd_Mpg cs h r o f a g).set 22 (r 29, .inl (cs 0, 700, .inl X)) = wd_Mpg cs h r o f (va_up a 29 X) g := rfl
theorem ga_Mpg_34 (cs : Nat → ClassId) (h : Nat) (r : Nat → Nat) (o : Nat → Option Nat) (f : Nat → Int32) (a : Nat → Nat → Int32) (g : Nat → Nat → Option Nat) : (wd_Mpg cs h r o f a g)[23]? = some (r 34, .inl (cs 0, 1100, .inl (a 34))) := rfl
theorem sa_Mpg_34 (cs : Nat → ClassId) (h : Nat) (r : Nat → Nat) (o : Nat → Option Nat) (f : Nat → Int32) (a : Nat → Nat → Int32) (g : Nat → Nat → Option Nat) (X : Nat → Int32) : (wd_Mpg cs h r o f a g).set 23 (r 34, .inl (cs 0, 1100, .inl X)) = wd_Mpg cs h r o f (va_up a 34 X) g := rfl
theorem ga_Mpg_35 (cs : Nat → ClassId) (h : Nat) (r : Nat → Nat) (o : Nat → Option Nat) (f : Nat → Int32) (a : Nat → Nat → Int32) (g : Nat → Nat → Option Nat) : (wd_Mpg cs h r o f a g)[24]? = some (r 35, .inl (cs 0, 1100, .inl (a 35))) := rfl
theorem sa_Mpg_35 (cs : Nat → ClassId) (h : Nat) (r : Nat → Nat) (o : Nat → Option Nat) (f : Nat → Int32) (a : Nat → Nat → Int32) (g : Nat → Nat → Option Nat) (X : Nat → Int32) : (wd_Mpg cs h r o f a g).set 24 (r 35, .inl (cs 0, 1100, .inl X)) = wd_Mpg cs h r o f (va_up a 35 X) g := rfl
theorem ga_Mpg_36 (cs : Nat → ClassId) (h : Nat) (r : Nat → Nat) (o : Nat → Option Nat) (f : Nat → Int32) (a : Nat → Nat → Int32) (g : Nat → Nat → Option Nat) : (wd_Mpg cs h r o f a g)[25]? = some (r 36, .inl (cs 0, 1100, .inl (a 36))) := rfl
theorem sa_Mpg_36 (cs : Nat → ClassId) (h : Nat) (r : Nat → Nat) (o : Nat → Option Nat) (f : Nat → Int32) (a : Nat → Nat → Int32) (g : Nat → Nat → Option Nat) (X : Nat → Int32) : (wd_Mpg cs h r o f a g).set 25 (r 36, .inl (cs 0, 1100, .inl X)) = wd_Mpg cs h r o f (va_up a 36 X) g := rfl
theorem ga_Mpg_39 (cs : Nat → ClassId) (h : Nat) (r : Nat → Nat) (o : Nat → Option Nat) (f : Nat → Int32) (a : Nat → Nat → Int32) (g : Nat → Nat → Option Nat) : (wd_Mpg cs h r o f a g)[26]? = some (r 39, .inl (cs 0, 260, .inl (a 39))) := rfl
theorem sa_Mpg_39 (cs : Nat → ClassId) (h : Nat) (r : Nat → Nat) (o : Nat → Option Nat) (f : Nat → Int32) (a : Nat → Nat → Int32) (g : Nat → Nat → Option Nat) (X : Nat → Int32) : (wd_Mpg cs h r o f a g).set 26 (r 39, .inl (cs 0, 260, .inl X)) = wd_Mpg cs h r o f (va_up a 39 X) g := rfl
theorem ga_Mpg_40 (cs : Nat → ClassId) (h : Nat) (r : Nat → Nat) (o : Nat → Option Nat) (f : Nat → Int32) (a : Nat → Nat → Int32) (g : Nat → Nat → Option Nat) : (wd_Mpg cs h r o f a g)[27]? = some (r 40, .inl (cs 0, 260, .inl (a 40))) := rfl
theorem sa_Mpg_40 (cs : Nat → ClassId) (h : Nat) (r : Nat → Nat) (o : Nat → Option Nat) (f : Nat → Int32) (a : Nat → Nat → Int32) (g : Nat → Nat → Option Nat) (X : Nat → Int32) : (wd_Mpg cs h r o f a g).set 27 (r 40, .inl (cs 0, 260, .inl X)) = wd_Mpg cs h r o f (va_up a 40 X) g := rfl
theorem ga_Mpg_49 (cs : Nat → ClassId) (h : Nat) (r : Nat → Nat) (o : Nat → Option Nat) (f : Nat → Int32) (a : Nat → Nat → Int32) (g : Nat → Nat → Option Nat) : (wd_Mpg cs h r o f a g)[28]? = some (r 49, .inl (cs 1, 1100, .inl (a 49))) := rfl
theorem sa_Mpg_49 (cs : Nat → ClassId) (h : Nat) (r : Nat → Nat) (o : Nat → Option Nat) (f : Nat → Int32) (a : Nat → Nat → Int32) (g : Nat → Nat → Option Nat) (X : Nat → Int32) : (wd_Mpg cs h r o f a g).set 28 (r 49, .inl (cs 1, 1100, .inl X)) = wd_Mpg cs h r o f (va_up a 49 X) g := rfl
theorem ga_Mpg_50 (cs : Nat → ClassId) (h : Nat) (r : Nat → Nat) (o : Nat → Option Nat) (f : Nat → Int32) (a : Nat → Nat → Int32) (g : Nat → Nat → Option Nat) : (wd_Mpg cs h r o f a g)[29]? = some (r 50, .inl (cs 3, 1100, .inl (a 50))) := rfl
theorem sa_Mpg_50 (cs : Nat → ClassId) (h : Nat) (r : Nat → Nat) (o : Nat → Option Nat) (f : Nat → Int32) (a : Nat → Nat → Int32) (g : Nat → Nat → Option Nat) (X : Nat → Int32) : (wd_Mpg cs h r o f a g).set 29 (r 50, .inl (cs 3, 1100, .inl X)) = wd_Mpg cs h r o f (va_up a 50 X) g := rfl
theorem ga_Mpg_51 (cs : Nat → ClassId) (h : Nat) (r : Nat → Nat) (o : Nat → Option Nat) (f : Nat → Int32) (a : Nat → Nat → Int32) (g : Nat → Nat → Option Nat) : (wd_Mpg cs h r o f a g)[30]? = some (r 51, .inl (cs 0, 1100, .inl (a 51))) := rfl
theorem sa_Mpg_51 (cs : Nat → ClassId) (h : Nat) (r : Nat → Nat) (o : Nat → Option Nat) (f : Nat → Int32) (a : Nat → Nat → Int32) (g : Nat → Nat → Option Nat) (X : Nat → Int32) : (wd_Mpg cs h r o f a g).set 30 (r 51, .inl (cs 0, 1100, .inl X)) = wd_Mpg cs h r o f (va_up a 51 X) g := rfl
theorem ga_Mpg_52 (cs : Nat → ClassId) (h : Nat) (r : Nat → Nat) (o : Nat → Option Nat) (f : Nat → Int32) (a : Nat → Nat → Int32) (g : Nat → Nat → Option Nat) : (wd_Mpg cs h r o f a g)[31]? = some (r 52, .inl (cs 0, 1100, .inl (a 52))) := rfl
theorem sa_Mpg_52 (cs : Nat → ClassId) (h : Nat) (r : Nat → Nat) (o : Nat → Option Nat) (f : Nat → Int32) (a : Nat → Nat → Int32) (g : Nat → Nat → Option Nat) (X : Nat → Int32) : (wd_Mpg cs h r o f a g).set 31 (r 52, .inl (cs 0, 1100, .inl X)) = wd_Mpg cs h r o f (va_up a 52 X) g := rfl
theorem ga_Mpg_53 (cs : Nat → ClassId) (h : Nat) (r : Nat → Nat) (o : Nat → Option Nat) (f : Nat → Int32) (a : Nat → Nat → Int32) (g : Nat → Nat → Option Nat) : (wd_Mpg cs h r o f a g)[32]? = some (r 53, .inl (cs 0, 1100, .inl (a 53))) := rfl
theorem sa_Mpg_53 (cs : Nat → ClassId) (h : Nat) (r : Nat → Nat) (o : Nat → Option Nat) (f : Nat → Int32) (a : Nat → Nat → Int32) (g : Nat → Nat → Option Nat) (X : Nat → Int32) : (wd_Mpg cs h r o f a g).set 32 (r 53, .inl (cs 0, 1100, .inl X)) = wd_Mpg cs h r o f (va_up a 53 X) g := rfl
theorem ga_Mpg_56 (cs : Nat → ClassId) (h : Nat) (r : Nat → Nat) (o : Nat → Option Nat) (f : Nat → Int32) (a : Nat → Nat → Int32) (g : Nat → Nat → Option Nat) : (wd_Mpg cs h r o f a g)[33]? = some (r 56, .inl (cs 0, 260, .inl (a 56))) := rfl
theorem sa_Mpg_56 (cs : Nat → ClassId) (h : Nat) (r : Nat → Nat) (o : Nat → Option Nat) (f : Nat → Int32) (a : Nat → Nat → Int32) (g : Nat → Nat → Option Nat) (X : Nat → Int32) : (wd_Mpg cs h r o f a g).set 33 (r 56, .inl (cs 0, 260, .inl X)) = wd_Mpg cs h r o f (va_up a 56 X) g := rfl
theorem ga_Mpg_61 (cs : Nat → ClassId) (h : Nat) (r : Nat → Nat) (o : Nat → Option Nat) (f : Nat → Int32) (a : Nat → Nat → Int32) (g : Nat → Nat → Option Nat) : (wd_Mpg cs h r o f a g)[34]? = some (r 61, .inl (cs 0, 21000, .inl (a 61))) := rfl
theorem sa_Mpg_61 (cs : Nat → ClassId) (h : Nat) (r : Nat → Nat) (o : Nat → Option Nat) (f : Nat → Int32) (a : Nat → Nat → Int32) (g : Nat → Nat → Option Nat) (X : Nat → Int32) : (wd_Mpg cs h r o f a g).set 34 (r 61, .inl (cs 0, 21000, .inl X)) = wd_Mpg cs h r o f (va_up a 61 X) g := rfl
theorem ga_Mpg_62 (cs : Nat → ClassId) (h : Nat) (r : Nat → Nat) (o : Nat → Option Nat) (f : Nat → Int32) (a : Nat → Nat → Int32) (g : Nat → Nat → Option Nat) : (wd_Mpg cs h r o f a g)[35]? = some (r 62, .inl (cs 0, 260, .inl (a 62))) := rfl
theorem sa_Mpg_62 (cs : Nat → ClassId) (h : Nat) (r : Nat → Nat) (o : Nat → Option Nat) (f : Nat → Int32) (a : Nat → Nat → Int32) (g : Nat → Nat → Option Nat) (X : Nat → Int32) : (wd_Mpg cs h r o f a g).set 35 (r 62, .inl (cs 0, 260, .inl X)) = wd_Mpg cs h r o f (va_up a 62 X) g := rfl
theorem ga_Mpg_63 (cs : Nat → ClassId) (h : Nat) (r : Nat → Nat) (o : Nat → Option Nat) (f : Nat → Int32) (a : Nat → Nat → Int32) (g : Nat → Nat → Option Nat) : (wd_Mpg cs h r o f a g)[36]? = some (r 63, .inl (cs 0, 260, .inl (a 63))) := rfl
theorem sa_Mpg_63 (cs : Nat → ClassId) (h : Nat) (r : Nat → Nat) (o : Nat → Option Nat) (f : Nat → Int32) (a : Nat → Nat → Int32) (g : Nat → Nat → Option Nat) (X : Nat → Int32) : (wd_Mpg cs h r o f a g).set 36 (r 63, .inl (cs 0, 260, .inl X)) = wd_Mpg cs h r o f (va_up a 63 X) g := rfl
theorem ga_Mpg_67 (cs : Nat → ClassId) (h : Nat) (r : Nat → Nat) (o : Nat → Option Nat) (f : Nat → Int32) (a : Nat → Nat → Int32) (g : Nat → Nat → Option Nat) : (wd_Mpg cs h r o f a g)[37]? = some (r 67, .inl (cs 0, 512, .inl (a 67))) := rfl
theorem sa_Mpg_67 (cs : Nat → ClassId) (h : Nat) (r : Nat → Nat) (o : Nat → Option Nat) (f : Nat → Int32) (a : Nat → Nat → Int32) (g : Nat → Nat → Option Nat) (X : Nat → Int32) : (wd_Mpg cs h r o f a g).set 37 (r 67, .inl (cs 0, 512, .inl X)) = wd_Mpg cs h r o f (va_up a 67 X) g := rfl
theorem ga_Mpr_8 (cs : Nat → ClassId) (h : Nat) (r : Nat → Nat) (o : Nat → Option Nat) (f : Nat → Int32) (a : Nat → Nat → Int32) (g : Nat → Nat → Option Nat) : (wd_Mpr cs h r o f a g)[1]? = some (r 8, .inl (cs 0, 37000, .inl (a 8))) := rfl
theorem sa_Mpr_8 (cs : Nat → ClassId) (h : Nat) (r : Nat → Nat) (o : Nat → Option Nat) (f : Nat → Int32) (a : Nat → Nat → Int32) (g : Nat → Nat → Option Nat) (X : Nat → Int32) : (wd_Mpr cs h r o f a g).set 1 (r 8, .inl (cs 0, 37000, .inl X)) = wd_Mpr cs h r o f (va_up a 8 X) g := rfl
theorem ga_Mpr_9 (cs : Nat → ClassId) (h : Nat) (r : Nat → Nat) (o : Nat → Option Nat) (f : Nat → Int32) (a : Nat → Nat → Int32) (g : Nat → Nat → Option Nat) : (wd_Mpr cs h r o f a g)[2]? = some (r 9, .inl (cs 0, 62500, .inl (a 9))) := rfl
theorem sa_Mpr_9 (cs : Nat → ClassId) (h : Nat) (r : Nat → Nat) (o : Nat → Option Nat) (f : Nat → Int32) (a : Nat → Nat → Int32) (g : Nat → Nat → Option Nat) (X : Nat → Int32) : (wd_Mpr cs h r o f a g).set 2 (r 9, .inl (cs 0, 62500, .inl X)) = wd_Mpr cs h r o f (va_up a 9 X) g := rfl
theorem ga_Mpr_15 (cs : Nat → ClassId) (h : Nat) (r : Nat → Nat) (o : Nat → Option Nat) (f : Nat → Int32) (a : Nat → Nat → Int32) (g : Nat → Nat → Option Nat) : (wd_Mpr cs h r o f a g)[3]? = some (r 15, .inl (cs 0, 132, .inl (a 15))) := rfl
theorem sa_Mpr_15 (cs : Nat → ClassId) (h : Nat) (r : Nat → Nat) (o : Nat → Option Nat) (f : Nat → Int32) (a : Nat → Nat → Int32) (g : Nat → Nat → Option Nat) (X : Nat → Int32) : (wd_Mpr cs h r o f a g).set 3 (r 15, .inl (cs 0, 132, .inl X)) = wd_Mpr cs h r o f (va_up a 15 X) g := rfl
theorem ga_Mpr_16 (cs : Nat → ClassId) (h : Nat) (r : Nat → Nat) (o : Nat → Option Nat) (f : Nat → Int32) (a : Nat → Nat → Int32) (g : Nat → Nat → Option Nat) : (wd_Mpr cs h r o f a g)[4]? = some (r 16, .inl (cs 0, 132, .inl (a 16))) := rfl
theorem sa_Mpr_16 (cs : Nat → ClassId) (h : Nat) (r : Nat → Nat) (o : Nat → Option Nat) (f : Nat → Int32) (a : Nat → Nat → Int32) (g : Nat → Nat → Option Nat) (X : Nat → Int32) : (wd_Mpr cs h r o f a g).set 4 (r 16, .inl (cs 0, 132, .inl X)) = wd_Mpr cs h r o f (va_up a 16 X) g := rfl
theorem ga_Mpr_17 (cs : Nat → ClassId) (h : Nat) (r : Nat → Nat) (o : Nat → Option Nat) (f : Nat → Int32) (a : Nat → Nat → Int32) (g : Nat → Nat → Option Nat) : (wd_Mpr cs h r o f a g)[5]? = some (r 17, .inl (cs 0, 132, .inl (a 17))) := rfl
theorem sa_Mpr_17 (cs : Nat → ClassId) (h : Nat) (r : Nat → Nat) (o : Nat → Option Nat) (f : Nat → Int32) (a : Nat → Nat → Int32) (g : Nat → Nat → Option Nat) (X : Nat → Int32) : (wd_Mpr cs h r o f a g).set 5 (r 17, .inl (cs 0, 132, .inl X)) = wd_Mpr cs h r o f (va_up a 17 X) g := rfl
theorem ga_Mpr_18 (cs : Nat → ClassId) (h : Nat) (r : Nat → Nat) (o : Nat → Option Nat) (f : Nat → Int32) (a : Nat → Nat → Int32) (g : Nat → Nat → Option Nat) : (wd_Mpr cs h r o f a g)[6]? = some (r 18, .inl (cs 0, 132, .inl (a 18))) := rfl
theorem sa_Mpr_18 (cs : Nat → ClassId) (h : Nat) (r : Nat → Nat) (o : Nat → Option Nat) (f : Nat → Int32) (a : Nat → Nat → Int32) (g : Nat → Nat → Option Nat) (X : Nat → Int32) : (wd_Mpr cs h r o f a g).set 6 (r 18, .inl (cs 0, 132, .inl X)) = wd_Mpr cs h r o f (va_up a 18 X) g := rfl
theorem ga_Mpr_19 (cs : Nat → ClassId) (h : Nat) (r : Nat → Nat) (o : Nat → Option Nat) (f : Nat → Int32) (a : Nat → Nat → Int32) (g : Nat → Nat → Option Nat) : (wd_Mpr cs h r o f a g)[7]? = some (r 19, .inl (cs 0, 32, .inl (a 19))) := rfl
theorem sa_Mpr_19 (cs : Nat → ClassId) (h : Nat) (r : Nat → Nat) (o : Nat → Option Nat) (f : Nat → Int32) (a : Nat → Nat → Int32) (g : Nat → Nat → Option Nat) (X : Nat → Int32) : (wd_Mpr cs h r o f a g).set 7 (r 19, .inl (cs 0, 32, .inl X)) = wd_Mpr cs h r o f (va_up a 19 X) g := rfl
theorem ga_Mpr_20 (cs : Nat → ClassId) (h : Nat) (r : Nat → Nat) (o : Nat → Option Nat) (f : Nat → Int32) (a : Nat → Nat → Int32) (g : Nat → Nat → Option Nat) : (wd_Mpr cs h r o f a g)[8]? = some (r 20, .inl (cs 0, 4, .inl (a 20))) := rfl
theorem sa_Mpr_20 (cs : Nat → ClassId) (h : Nat) (r : Nat → Nat) (o : Nat → Option Nat) (f : Nat → Int32) (a : Nat → Nat → Int32) (g : Nat → Nat → Option Nat) (X : Nat → Int32) : (wd_Mpr cs h r o f a g).set 8 (r 20, .inl (cs 0, 4, .inl X)) = wd_Mpr cs h r o f (va_up a 20 X) g := rfl
theorem ga_Mpr_22 (cs : Nat → ClassId) (h : Nat) (r : Nat → Nat) (o : Nat → Option Nat) (f : Nat → Int32) (a : Nat → Nat → Int32) (g : Nat → Nat → Option Nat) : (wd_Mpr cs h r o f a g)[9]? = some (r 22, .inl (cs 0, 4, .inl (a 22))) := rfl
theorem sa_Mpr_22 (cs : Nat → ClassId) (h : Nat) (r : Nat → Nat) (o : Nat → Option Nat) (f : Nat → Int32) (a : Nat → Nat → Int32) (g : Nat → Nat → Option Nat) (X : Nat → Int32) : (wd_Mpr cs h r o f a g).set 9 (r 22, .inl (cs 0, 4, .inl X)) = wd_Mpr cs h r o f (va_up a 22 X) g := rfl
theorem ga_Mpr_25 (cs : Nat → ClassId) (h : Nat) (r : Nat → Nat) (o : Nat → Option Nat) (f : Nat → Int32) (a : Nat → Nat → Int32) (g : Nat → Nat → Option Nat) : (wd_Mpr cs h r o f a g)[10]? = some (r 25, .inl (cs 0, 256, .inl (a 25))) := rfl
theorem sa_Mpr_25 (cs : Nat → ClassId) (h : Nat) (r : Nat → Nat) (o : Nat → Option Nat) (f : Nat → Int32) (a : Nat → Nat → Int32) (g : Nat → Nat → Option Nat) (X : Nat → Int32) : (wd_Mpr cs h r o f a g).set 10 (r 25, .inl (cs 0, 256, .inl X)) = wd_Mpr cs h r o f (va_up a 25 X) g := rfl
theorem ga_Hs_0 (cs : Nat → ClassId) (h : Nat) (r : Nat → Nat) (o : Nat → Option Nat) (f : Nat → Int32) (a : Nat → Nat → Int32) (g : Nat → Nat → Option Nat) : (wd_Hs cs h r o f a g)[1]? = some (r 0, .inl (cs 1, 2048, .inl (a 0))) := rfl
theorem sa_Hs_0 (cs : Nat → ClassId) (h : Nat) (r : Nat → Nat) (o : Nat → Option Nat) (f : Nat → Int32) (a : Nat → Nat → Int32) (g : Nat → Nat → Option Nat) (X : Nat → Int32) : (wd_Hs cs h r o f a g).set 1 (r 0, .inl (cs 1, 2048, .inl X)) = wd_Hs cs h r o f (va_up a 0 X) g := rfl
abbrev b_Raw_begin : ByteArray := prog_8_method_2_code
def y_Raw_begin : MethodName := ⟨"HomeSystem$RawProcess", "begin", "(LHomeSystem$Program;III)V"⟩
theorem d_Raw_begin_0 : decode b_Raw_begin 0 = .ok (.aload_n 0, 1) := by decide +kernel
theorem d_Raw_begin_1 : decode b_Raw_begin 1 = .ok (.invokevirtual 18, 3) := by decide +kernel
theorem d_Raw_begin_4 : decode b_Raw_begin 4 = .ok (.aload_n 0, 1) := by decide +kernel
theorem d_Raw_begin_5 : decode b_Raw_begin 5 = .ok (.getfield 9, 3) := by decide +kernel
theorem d_Raw_begin_8 : decode b_Raw_begin 8 = .ok (.iconst 0, 1) := by decide +kernel
theorem d_Raw_begin_9 : decode b_Raw_begin 9 = .ok (.invokestatic 22, 3) := by decide +kernel
theorem d_Raw_begin_12 : decode b_Raw_begin 12 = .ok (.aload_n 0, 1) := by decide +kernel
theorem d_Raw_begin_13 : decode b_Raw_begin 13 = .ok (.getfield 9, 3) := by decide +kernel
theorem d_Raw_begin_16 : decode b_Raw_begin 16 = .ok (.iconst 2, 1) := by decide +kernel
theorem d_Raw_begin_17 : decode b_Raw_begin 17 = .ok (.ldc 28, 2) := by decide +kernel
theorem d_Raw_begin_19 : decode b_Raw_begin 19 = .ok (.iastore, 1) := by decide +kernel
theorem d_Raw_begin_20 : decode b_Raw_begin 20 = .ok (.aload_n 0, 1) := by decide +kernel
theorem d_Raw_begin_21 : decode b_Raw_begin 21 = .ok (.getfield 9, 3) := by decide +kernel
theorem d_Raw_begin_24 : decode b_Raw_begin 24 = .ok (.bipush 10, 2) := by decide +kernel
theorem d_Raw_begin_26 : decode b_Raw_begin 26 = .ok (.iload_n 2, 1) := by decide +kernel
theorem d_Raw_begin_27 : decode b_Raw_begin 27 = .ok (.iastore, 1) := by decide +kernel
theorem d_Raw_begin_28 : decode b_Raw_begin 28 = .ok (.aload_n 0, 1) := by decide +kernel
theorem d_Raw_begin_29 : decode b_Raw_begin 29 = .ok (.aload_n 1, 1) := by decide +kernel
theorem d_Raw_begin_30 : decode b_Raw_begin 30 = .ok (.getfield 29, 3) := by decide +kernel
theorem d_Raw_begin_33 : decode b_Raw_begin 33 = .ok (.putfield 34, 3) := by decide +kernel
theorem d_Raw_begin_36 : decode b_Raw_begin 36 = .ok (.aload_n 0, 1) := by decide +kernel
theorem d_Raw_begin_37 : decode b_Raw_begin 37 = .ok (.ldc 37, 2) := by decide +kernel
theorem d_Raw_begin_39 : decode b_Raw_begin 39 = .ok (.putfield 38, 3) := by decide +kernel
theorem d_Raw_begin_42 : decode b_Raw_begin 42 = .ok (.aload_n 0, 1) := by decide +kernel
theorem d_Raw_begin_43 : decode b_Raw_begin 43 = .ok (.bipush 16, 2) := by decide +kernel
theorem d_Raw_begin_45 : decode b_Raw_begin 45 = .ok (.iload_n 3, 1) := by decide +kernel
theorem d_Raw_begin_46 : decode b_Raw_begin 46 = .ok (.imul, 1) := by decide +kernel
theorem d_Raw_begin_47 : decode b_Raw_begin 47 = .ok (.putfield 42, 3) := by decide +kernel
theorem d_Raw_begin_50 : decode b_Raw_begin 50 = .ok (.aload_n 0, 1) := by decide +kernel
theorem d_Raw_begin_51 : decode b_Raw_begin 51 = .ok (.dup, 1) := by decide +kernel
theorem d_Raw_begin_52 : decode b_Raw_begin 52 = .ok (.getfield 45, 3) := by decide +kernel
theorem d_Raw_begin_55 : decode b_Raw_begin 55 = .ok (.iconst 1, 1) := by decide +kernel
theorem d_Raw_begin_56 : decode b_Raw_begin 56 = .ok (.iadd, 1) := by decide +kernel
theorem d_Raw_begin_57 : decode b_Raw_begin 57 = .ok (.putfield 45, 3) := by decide +kernel
theorem d_Raw_begin_60 : decode b_Raw_begin 60 = .ok (.return_, 1) := by decide +kernel
theorem q_Raw_begin : px_y y_Raw_begin 4 := by unfold px_y; decide +kernel
set_option maxHeartbeats 4000000 in
set_option maxRecDepth 100000 in
theorem c_Raw_begin (l : Launch) (D : va_G) (cs : Nat → ClassId) (h : Nat) (r : Nat → Nat) (g : Nat → Nat → Option Nat) (o2 : Option Nat) (f : Nat → Int32) (a : Nat → Nat → Int32) (o4 : Option Nat) (hp : Nat) (rp : Nat → Nat) (of : Option Nat) (fp : Nat → Int32) (p0 p1 p2 : Int32)  (g0 : 0 ≤ p1.toInt) (g1 : p1.toInt ≤ 100) : MetV l y_Raw_begin b_Raw_begin 5 D cs 1 40 (0) (0) [.ref h, .ref hp, .int p0, .int p1, .int p2] [wd_Raw cs h r (fun k => if k = 2 then o2 else if k = 4 then o4 else none) f a g, wd_Prg cs hp rp (fun k => if k = 2 then of else none) fp (fun _ _ => 0) (fun _ _ => none)] (fun _ => True) (fun ps => ∃ (f' : Nat → Int32) (a' : Nat → Nat → Int32) (o4' : Option Nat), (ps = [wd_Raw cs h r (fun k => if k = 2 then o2 else if k = 4 then o4' else none) f' a' g, wd_Prg cs hp rp (fun k => if k = 2 then of else none) fp (fun _ _ => 0) (fun _ _ => none)]) ∧ ((f' 7).toInt = 16 * p1.toInt) ∧ ((f' 8).toInt = (f 8).toInt) ∧ ((f' 10).toInt = 0) ∧ ((f' 11).toInt = -2) ∧ ((f' 13).toInt = 0) ∧ ((f' 14).toInt = 0) ∧ ((some (rp 1)) = o4')) := by
  refine px_enter (by decide) (Nat.le_of_ble_eq_true rfl) ?_
  intro p e s m below meth c A ls hAe S hr hlk hnm hA hT hX hw hl
  have hl : lv_has ls 5 [(0, .ref h), (1, .ref hp), (2, .int p0), (3, .int p1), (4, .int p2)] := hl
  have lp0 := Int32.le_toInt p0
  have up0 := Int32.toInt_lt p0
  have lp1 := Int32.le_toInt p1
  have up1 := Int32.toInt_lt p1
  have lp2 := Int32.le_toInt p2
  have up2 := Int32.toInt_lt p2
  have cst0 : (0 : Int32).toInt = 0 := rfl
  have cst1 : (1 : Int32).toInt = 1 := rfl
  have cst2 : (2 : Int32).toInt = 2 := rfl
  have cst10 : (10 : Int32).toInt = 10 := rfl
  have cst16 : (16 : Int32).toInt = 16 := rfl
  refine lv_aload_n S.x S.b d_Raw_begin_0 rfl (lv_at hl 0 rfl) ?_
  have hw : pw D A s.heap _ _ [wd_Prg cs hp rp (fun k => if k = 2 then of else none) fp (fun _ _ => 0) (fun _ _ => none), wd_Raw cs h r (fun k => if k = 2 then o2 else if k = 4 then o4 else none) f a g] := hw.sub [1, 0] rfl rfl
  refine px_callv (pr := [wd_Prg cs hp rp (fun k => if k = 2 then of else none) fp (fun _ _ => 0) (fun _ _ => none)]) (px_runU (As := []) (rest := []) S (c_reset_Raw l D cs h r g o2 o4 f a    _) hT (pr := [wd_Prg cs hp rp (fun k => if k = 2 then of else none) fp (fun _ _ => 0) (fun _ _ => none)]) (pcs := [wd_Raw cs h r (fun k => if k = 2 then o2 else if k = 4 then o4 else none) f a g]) hw px_X.tt (C := "HomeSystem$RawProcess") (x := ⟨"HomeSystem$RawProcess", "reset", "()V"⟩) (px_recv hT hw 1 0 rfl rfl rfl) m7_40 m7_35 m7_36 m7_39 m7_38 m1_33 rfl q_HomeSystem_AnyProcess_reset ⟨Nat.le_of_ble_eq_true rfl, Nat.le_of_ble_eq_true rfl⟩ hl.1 rfl (Nat.le_of_ble_eq_true rfl) d_Raw_begin_1 ⟨Nat.le_of_ble_eq_true rfl, Nat.le_of_ble_eq_true rfl⟩) hw hA (fun p3 H locs hp3 hw => ?_)
  obtain ⟨f1, a2, rfl, e5, e6, e7, e8, e9, e10, e11⟩ := hp3
  have e5 : (f1 3).toInt = (f 3).toInt := e5
  have e6 : (f1 7).toInt = (f 7).toInt := e6
  have e7 : (f1 8).toInt = (f 8).toInt := e7
  have e8 : (f1 10).toInt = 0 := e8
  have e9 : (f1 13).toInt = 0 := e9
  have e10 : (f1 14).toInt = 0 := e10
  have e11 : (f1 11).toInt = -2 := e11
  have hw : pw D A s.heap H locs [wd_Prg cs hp rp (fun k => if k = 2 then of else none) fp (fun _ _ => 0) (fun _ _ => none), wd_Raw cs h r (fun k => if k = 2 then o2 else if k = 4 then o4 else none) f1 a2 g] := hw
  refine lv_aload_n S.x S.b d_Raw_begin_4 rfl (lv_at hl 0 rfl) ?_
  refine px_get S k_Raw hT hw 1 0 0 (v := .ref (r 0)) rfl rfl rfl (by decide) m6_124 d_Raw_begin_5 ?_
  refine lv_iconst (v := 0) S.x S.b d_Raw_begin_8 (by decide) ?_
  have hw : pw D A s.heap _ _ [wd_Prg cs hp rp (fun k => if k = 2 then of else none) fp (fun _ _ => 0) (fun _ _ => none), [(h, .inr (9, [.ref (r 0), .ref (r 1), va_rf o2, .int (f1 3), va_rf o4, .int (f1 5), .int (f1 6), .int (f1 7), .int (f1 8), .ref (r 9), .int (f1 10), .int (f1 11), .int (f1 12), .int (f1 13), .int (f1 14), .int (f1 15), .int (f1 16), .int (f1 17)]))], [((r 0), .inl (cs 0, 32, .inl (a2 0)))], [((r 1), .inl (cs 0, 36, .inl (a2 1)))], [((r 9), .inl (cs 0, 256, .inl (a2 9)))]] := hw.eq rfl
  have hw : pw D A s.heap _ _ [wd_Prg cs hp rp (fun k => if k = 2 then of else none) fp (fun _ _ => 0) (fun _ _ => none), [(h, .inr (9, [.ref (r 0), .ref (r 1), va_rf o2, .int (f1 3), va_rf o4, .int (f1 5), .int (f1 6), .int (f1 7), .int (f1 8), .ref (r 9), .int (f1 10), .int (f1 11), .int (f1 12), .int (f1 13), .int (f1 14), .int (f1 15), .int (f1 16), .int (f1 17)]))], [((r 1), .inl (cs 0, 36, .inl (a2 1)))], [((r 9), .inl (cs 0, 256, .inl (a2 9)))], [((r 0), .inl (cs 0, 32, .inl (a2 0)))]] := hw.sub [0, 1, 3, 4, 2] rfl rfl
  refine px_callv (pr := [wd_Prg cs hp rp (fun k => if k = 2 then of else none) fp (fun _ _ => 0) (fun _ _ => none), [(h, .inr (9, [.ref (r 0), .ref (r 1), va_rf o2, .int (f1 3), va_rf o4, .int (f1 5), .int (f1 6), .int (f1 7), .int (f1 8), .ref (r 9), .int (f1 10), .int (f1 11), .int (f1 12), .int (f1 13), .int (f1 14), .int (f1 15), .int (f1 16), .int (f1 17)]))], [((r 1), .inl (cs 0, 36, .inl (a2 1)))], [((r 9), .inl (cs 0, 256, .inl (a2 9)))]]) (px_runS (As := [.ref (r 0), .int 0]) (rest := []) S (c_Arrays_fill l D cs (r 0) 32 (a2 0) 0  (show 32 ≤ 1000000 from by omega) _) hT (pr := [wd_Prg cs hp rp (fun k => if k = 2 then of else none) fp (fun _ _ => 0) (fun _ _ => none), [(h, .inr (9, [.ref (r 0), .ref (r 1), va_rf o2, .int (f1 3), va_rf o4, .int (f1 5), .int (f1 6), .int (f1 7), .int (f1 8), .ref (r 9), .int (f1 10), .int (f1 11), .int (f1 12), .int (f1 13), .int (f1 14), .int (f1 15), .int (f1 16), .int (f1 17)]))], [((r 1), .inl (cs 0, 36, .inl (a2 1)))], [((r 9), .inl (cs 0, 256, .inl (a2 9)))]]) (pcs := [[((r 0), .inl (cs 0, 32, .inl (a2 0)))]]) hw px_X.tt m6_111 m7_41 m6_110 m1_14 q_Arrays_fill ⟨Nat.le_of_ble_eq_true rfl, Nat.le_of_ble_eq_true rfl⟩ hl.1 rfl (Nat.le_of_ble_eq_true rfl) d_Raw_begin_9 ⟨Nat.le_of_ble_eq_true rfl, Nat.le_of_ble_eq_true rfl⟩) hw hA (fun p13 H locs hp13 hw => ?_)
  obtain ⟨ca12, rfl⟩ := hp13
  have hw : pw D A s.heap H locs [wd_Prg cs hp rp (fun k => if k = 2 then of else none) fp (fun _ _ => 0) (fun _ _ => none), [(h, .inr (9, [.ref (r 0), .ref (r 1), va_rf o2, .int (f1 3), va_rf o4, .int (f1 5), .int (f1 6), .int (f1 7), .int (f1 8), .ref (r 9), .int (f1 10), .int (f1 11), .int (f1 12), .int (f1 13), .int (f1 14), .int (f1 15), .int (f1 16), .int (f1 17)]))], [((r 1), .inl (cs 0, 36, .inl (a2 1)))], [((r 9), .inl (cs 0, 256, .inl (a2 9)))], [((r 0), .inl (cs 0, 32, .inl ca12))]] := hw
  have hw : pw D A s.heap _ _ [wd_Prg cs hp rp (fun k => if k = 2 then of else none) fp (fun _ _ => 0) (fun _ _ => none), [(h, .inr (9, [.ref (r 0), .ref (r 1), va_rf o2, .int (f1 3), va_rf o4, .int (f1 5), .int (f1 6), .int (f1 7), .int (f1 8), .ref (r 9), .int (f1 10), .int (f1 11), .int (f1 12), .int (f1 13), .int (f1 14), .int (f1 15), .int (f1 16), .int (f1 17)]))], [((r 0), .inl (cs 0, 32, .inl ca12))], [((r 1), .inl (cs 0, 36, .inl (a2 1)))], [((r 9), .inl (cs 0, 256, .inl (a2 9)))]] := hw.sub [0, 1, 4, 2, 3] rfl rfl
  have hw : pw D A s.heap _ _ [wd_Prg cs hp rp (fun k => if k = 2 then of else none) fp (fun _ _ => 0) (fun _ _ => none), wd_Raw cs h r (fun k => if k = 2 then o2 else if k = 4 then o4 else none) f1 (va_up a2 0 ca12) g] := hw.eq rfl
  refine lv_aload_n S.x S.b d_Raw_begin_12 rfl (lv_at hl 0 rfl) ?_
  refine px_get S k_Raw hT hw 1 0 0 (v := .ref (r 0)) rfl rfl rfl (by decide) m6_124 d_Raw_begin_13 ?_
  refine lv_iconst (v := 2) S.x S.b d_Raw_begin_16 (by decide) ?_
  refine lv_ldc (v := 8388608) S.x S.b S.own (S.w m7_42) d_Raw_begin_17 ?_
  refine px_iast S hT hw 1 1 (n := 32) (f := ((va_up a2 0 ca12) 0)) (x := 2) (y := 8388608) rfl (ga_Raw_0 _ _ _ _ _ _ _) (vp_in_iff.mpr (by constructor <;> omega)) d_Raw_begin_19 (w' := wd_Raw cs h r (fun k => if k = 2 then o2 else if k = 4 then o4 else none) f1 (va_up (va_up a2 0 ca12) 0 (upd ((va_up a2 0 ca12) 0) (2 : Int32).toNatClampNeg 8388608)) g) (ps' := [wd_Prg cs hp rp (fun k => if k = 2 then of else none) fp (fun _ _ => 0) (fun _ _ => none), wd_Raw cs h r (fun k => if k = 2 then o2 else if k = 4 then o4 else none) f1 (va_up (va_up a2 0 ca12) 0 (upd ((va_up a2 0 ca12) 0) (2 : Int32).toNatClampNeg 8388608)) g]) (sa_Raw_0 _ _ _ _ _ _ _ _) rfl (fun H locs hw => ?_)
  refine lv_aload_n S.x S.b d_Raw_begin_20 rfl (lv_at hl 0 rfl) ?_
  refine px_get S k_Raw hT hw 1 0 0 (v := .ref (r 0)) rfl rfl rfl (by decide) m6_124 d_Raw_begin_21 ?_
  refine lv_bipush (v := 10) S.x S.b d_Raw_begin_24 (by decide) ?_
  refine lv_iload_n S.x S.b d_Raw_begin_26 rfl (lv_at hl 2 rfl) ?_
  refine px_iast S hT hw 1 1 (n := 32) (f := ((va_up (va_up a2 0 ca12) 0 (upd ((va_up a2 0 ca12) 0) (2 : Int32).toNatClampNeg 8388608)) 0)) (x := 10) (y := p0) rfl (ga_Raw_0 _ _ _ _ _ _ _) (vp_in_iff.mpr (by constructor <;> omega)) d_Raw_begin_27 (w' := wd_Raw cs h r (fun k => if k = 2 then o2 else if k = 4 then o4 else none) f1 (va_up (va_up (va_up a2 0 ca12) 0 (upd ((va_up a2 0 ca12) 0) (2 : Int32).toNatClampNeg 8388608)) 0 (upd ((va_up (va_up a2 0 ca12) 0 (upd ((va_up a2 0 ca12) 0) (2 : Int32).toNatClampNeg 8388608)) 0) (10 : Int32).toNatClampNeg p0)) g) (ps' := [wd_Prg cs hp rp (fun k => if k = 2 then of else none) fp (fun _ _ => 0) (fun _ _ => none), wd_Raw cs h r (fun k => if k = 2 then o2 else if k = 4 then o4 else none) f1 (va_up (va_up (va_up a2 0 ca12) 0 (upd ((va_up a2 0 ca12) 0) (2 : Int32).toNatClampNeg 8388608)) 0 (upd ((va_up (va_up a2 0 ca12) 0 (upd ((va_up a2 0 ca12) 0) (2 : Int32).toNatClampNeg 8388608)) 0) (10 : Int32).toNatClampNeg p0)) g]) (sa_Raw_0 _ _ _ _ _ _ _ _) rfl (fun H locs hw => ?_)
  refine lv_aload_n S.x S.b d_Raw_begin_28 rfl (lv_at hl 0 rfl) ?_
  refine lv_aload_n S.x S.b d_Raw_begin_29 rfl (lv_at hl 1 rfl) ?_
  refine px_get S k_Prg hT hw 0 0 1 (v := .ref (rp 1)) rfl rfl rfl (by decide) m2_100 d_Raw_begin_30 ?_
  refine px_put S k_Raw hT hw 1 0 4 rfl rfl (by decide) m6_128 rfl rfl rfl (Nat.le_of_ble_eq_true rfl) d_Raw_begin_33 (w' := wd_Raw cs h r (fun k => if k = 2 then o2 else if k = 4 then (some (rp 1)) else none) f1 (va_up (va_up (va_up a2 0 ca12) 0 (upd ((va_up a2 0 ca12) 0) (2 : Int32).toNatClampNeg 8388608)) 0 (upd ((va_up (va_up a2 0 ca12) 0 (upd ((va_up a2 0 ca12) 0) (2 : Int32).toNatClampNeg 8388608)) 0) (10 : Int32).toNatClampNeg p0)) g) (ps' := [wd_Prg cs hp rp (fun k => if k = 2 then of else none) fp (fun _ _ => 0) (fun _ _ => none), wd_Raw cs h r (fun k => if k = 2 then o2 else if k = 4 then (some (rp 1)) else none) f1 (va_up (va_up (va_up a2 0 ca12) 0 (upd ((va_up a2 0 ca12) 0) (2 : Int32).toNatClampNeg 8388608)) 0 (upd ((va_up (va_up a2 0 ca12) 0 (upd ((va_up a2 0 ca12) 0) (2 : Int32).toNatClampNeg 8388608)) 0) (10 : Int32).toNatClampNeg p0)) g]) rfl rfl (fun H locs hw => ?_)
  refine lv_aload_n S.x S.b d_Raw_begin_36 rfl (lv_at hl 0 rfl) ?_
  refine lv_ldc (v := 4194304) S.x S.b S.own (S.w m7_43) d_Raw_begin_37 ?_
  refine px_put S k_Raw hT hw 1 0 5 rfl rfl (by decide) m6_129 rfl rfl rfl (Nat.le_of_ble_eq_true rfl) d_Raw_begin_39 (w' := wd_Raw cs h r (fun k => if k = 2 then o2 else if k = 4 then (some (rp 1)) else none) (upd f1 5 4194304) (va_up (va_up (va_up a2 0 ca12) 0 (upd ((va_up a2 0 ca12) 0) (2 : Int32).toNatClampNeg 8388608)) 0 (upd ((va_up (va_up a2 0 ca12) 0 (upd ((va_up a2 0 ca12) 0) (2 : Int32).toNatClampNeg 8388608)) 0) (10 : Int32).toNatClampNeg p0)) g) (ps' := [wd_Prg cs hp rp (fun k => if k = 2 then of else none) fp (fun _ _ => 0) (fun _ _ => none), wd_Raw cs h r (fun k => if k = 2 then o2 else if k = 4 then (some (rp 1)) else none) (upd f1 5 4194304) (va_up (va_up (va_up a2 0 ca12) 0 (upd ((va_up a2 0 ca12) 0) (2 : Int32).toNatClampNeg 8388608)) 0 (upd ((va_up (va_up a2 0 ca12) 0 (upd ((va_up a2 0 ca12) 0) (2 : Int32).toNatClampNeg 8388608)) 0) (10 : Int32).toNatClampNeg p0)) g]) rfl rfl (fun H locs hw => ?_)
  refine lv_aload_n S.x S.b d_Raw_begin_42 rfl (lv_at hl 0 rfl) ?_
  refine lv_bipush (v := 16) S.x S.b d_Raw_begin_43 (by decide) ?_
  refine lv_iload_n S.x S.b d_Raw_begin_45 rfl (lv_at hl 3 rfl) ?_
  refine lv_imul S.x S.b d_Raw_begin_46 ?_
  refine lv_topi (fun z15 ez15 => ?_)
  have lz15 := Int32.le_toInt z15
  have uz15 := Int32.toInt_lt z15
  have tz15 : -2147483648 ≤ 16 * p1.toInt → 16 * p1.toInt < 2147483648 → z15.toInt = 16 * p1.toInt := by rw [ez15]; exact i_mulc 16 p1 (by decide)
  try replace tz15 : z15.toInt = 16 * p1.toInt := by omega
  refine px_put S k_Raw hT hw 1 0 7 rfl rfl (by decide) m6_131 rfl rfl rfl (Nat.le_of_ble_eq_true rfl) d_Raw_begin_47 (w' := wd_Raw cs h r (fun k => if k = 2 then o2 else if k = 4 then (some (rp 1)) else none) (upd (upd f1 5 4194304) 7 z15) (va_up (va_up (va_up a2 0 ca12) 0 (upd ((va_up a2 0 ca12) 0) (2 : Int32).toNatClampNeg 8388608)) 0 (upd ((va_up (va_up a2 0 ca12) 0 (upd ((va_up a2 0 ca12) 0) (2 : Int32).toNatClampNeg 8388608)) 0) (10 : Int32).toNatClampNeg p0)) g) (ps' := [wd_Prg cs hp rp (fun k => if k = 2 then of else none) fp (fun _ _ => 0) (fun _ _ => none), wd_Raw cs h r (fun k => if k = 2 then o2 else if k = 4 then (some (rp 1)) else none) (upd (upd f1 5 4194304) 7 z15) (va_up (va_up (va_up a2 0 ca12) 0 (upd ((va_up a2 0 ca12) 0) (2 : Int32).toNatClampNeg 8388608)) 0 (upd ((va_up (va_up a2 0 ca12) 0 (upd ((va_up a2 0 ca12) 0) (2 : Int32).toNatClampNeg 8388608)) 0) (10 : Int32).toNatClampNeg p0)) g]) rfl rfl (fun H locs hw => ?_)
  refine lv_aload_n S.x S.b d_Raw_begin_50 rfl (lv_at hl 0 rfl) ?_
  refine lv_dup S.x S.b d_Raw_begin_51 rfl ?_
  refine px_get S k_Raw hT hw 1 0 3 (v := .int (f1 3)) rfl rfl rfl (by decide) m6_127 d_Raw_begin_52 ?_
  refine lv_iconst (v := 1) S.x S.b d_Raw_begin_55 (by decide) ?_
  refine lv_iadd S.x S.b d_Raw_begin_56 ?_
  have lr16 := Int32.le_toInt (f1 3)
  have ur16 := Int32.toInt_lt (f1 3)
  refine lv_topi (fun z17 ez17 => ?_)
  have tz17 : z17.toInt = ((f1 3).toInt + (1 : Int) + 2147483648) % 4294967296 - 2147483648 := by rw [ez17]; exact i_add (f1 3) 1
  have lz17 := Int32.le_toInt z17
  have uz17 := Int32.toInt_lt z17
  try replace tz17 : z17.toInt = (f1 3).toInt + (1 : Int) := by omega
  refine px_put S k_Raw hT hw 1 0 3 rfl rfl (by decide) m6_127 rfl rfl rfl (Nat.le_of_ble_eq_true rfl) d_Raw_begin_57 (w' := wd_Raw cs h r (fun k => if k = 2 then o2 else if k = 4 then (some (rp 1)) else none) (upd (upd (upd f1 3 z17) 5 4194304) 7 z15) (va_up (va_up (va_up a2 0 ca12) 0 (upd ((va_up a2 0 ca12) 0) (2 : Int32).toNatClampNeg 8388608)) 0 (upd ((va_up (va_up a2 0 ca12) 0 (upd ((va_up a2 0 ca12) 0) (2 : Int32).toNatClampNeg 8388608)) 0) (10 : Int32).toNatClampNeg p0)) g) (ps' := [wd_Prg cs hp rp (fun k => if k = 2 then of else none) fp (fun _ _ => 0) (fun _ _ => none), wd_Raw cs h r (fun k => if k = 2 then o2 else if k = 4 then (some (rp 1)) else none) (upd (upd (upd f1 3 z17) 5 4194304) 7 z15) (va_up (va_up (va_up a2 0 ca12) 0 (upd ((va_up a2 0 ca12) 0) (2 : Int32).toNatClampNeg 8388608)) 0 (upd ((va_up (va_up a2 0 ca12) 0 (upd ((va_up a2 0 ca12) 0) (2 : Int32).toNatClampNeg 8388608)) 0) (10 : Int32).toNatClampNeg p0)) g]) rfl rfl (fun H locs hw => ?_)
  have hw : pw D A s.heap _ _ [wd_Raw cs h r (fun k => if k = 2 then o2 else if k = 4 then (some (rp 1)) else none) (upd (upd (upd f1 3 z17) 5 4194304) 7 z15) (va_up (va_up (va_up a2 0 ca12) 0 (upd ((va_up a2 0 ca12) 0) (2 : Int32).toNatClampNeg 8388608)) 0 (upd ((va_up (va_up a2 0 ca12) 0 (upd ((va_up a2 0 ca12) 0) (2 : Int32).toNatClampNeg 8388608)) 0) (10 : Int32).toNatClampNeg p0)) g, wd_Prg cs hp rp (fun k => if k = 2 then of else none) fp (fun _ _ => 0) (fun _ _ => none)] := hw.sub [1, 0] rfl rfl
  exact px_vret S hr hlk hAe hw (Nat.le_of_ble_eq_true rfl) (Nat.le_of_ble_eq_true rfl) (⟨(upd (upd (upd f1 3 z17) 5 4194304) 7 z15), (va_up (va_up (va_up a2 0 ca12) 0 (upd ((va_up a2 0 ca12) 0) (2 : Int32).toNatClampNeg 8388608)) 0 (upd ((va_up (va_up a2 0 ca12) 0 (upd ((va_up a2 0 ca12) 0) (2 : Int32).toNatClampNeg 8388608)) 0) (10 : Int32).toNatClampNeg p0)), (some (rp 1)), rfl, (show z15.toInt = 16 * p1.toInt from by first | exact tz15 | omega), (show (f1 8).toInt = (f 8).toInt from by first | exact e7 | omega), (show (f1 10).toInt = 0 from by first | exact e8 | omega), (show (f1 11).toInt = -2 from by first | exact e11 | omega), (show (f1 13).toInt = 0 from by first | exact e9 | omega), (show (f1 14).toInt = 0 from by first | exact e10 | omega), (show (some (rp 1)) = (some (rp 1)) from rfl)⟩) d_Raw_begin_60
set_option maxHeartbeats 4000000 in
set_option maxRecDepth 100000 in
theorem c_reset_TxpB (l : Launch) (D : va_G) (cs : Nat → ClassId) (h : Nat) (r : Nat → Nat) (g : Nat → Nat → Option Nat) (o3 : Option Nat) (f : Nat → Int32) (a : Nat → Nat → Int32)   : MetV l y_HomeSystem_AnyProcess_reset b_HomeSystem_AnyProcess_reset 1 D cs 0 0 (0) (0) [.ref h] [wd_Txp cs h r (fun k => if k = 3 then o3 else none) f a g] (fun _ => True) (fun ps => ∃ (f' : Nat → Int32) (a' : Nat → Nat → Int32), (ps = [wd_Txp cs h r (fun k => if k = 3 then o3 else none) f' a' g]) ∧ ((f' 17).toInt = 0) ∧ ((f' 21).toInt = 0) ∧ ((f' 20).toInt = 0) ∧ ((f' 18).toInt = -2) ∧ ((f' 4).toInt = (f 4).toInt) ∧ ((f' 5).toInt = (f 5).toInt) ∧ ((f' 8).toInt = (f 8).toInt) ∧ ((f' 9).toInt = (f 9).toInt) ∧ ((f' 15).toInt = (f 15).toInt) ∧ (a = a') ∧ (R_reset_TxpB f a f' a')) := by
  refine px_enter (by decide) (Nat.le_of_ble_eq_true rfl) ?_
  intro p e s m below meth c A ls hAe S hr hlk hnm hA hT hX hw hl
  have hl : lv_has ls 1 [(0, .ref h)] := hl
  have cstm2 : ((-2) : Int32).toInt = (-2) := rfl
  have cst0 : (0 : Int32).toInt = 0 := rfl
  refine lv_aload_n S.x S.b d_HomeSystem_AnyProcess_reset_0 rfl (lv_at hl 0 rfl) ?_
  refine lv_iconst (v := 0) S.x S.b d_HomeSystem_AnyProcess_reset_1 (by decide) ?_
  refine px_put S k_Txp hT hw 0 0 17 rfl rfl (by decide) m6_136 rfl rfl rfl (Nat.le_of_ble_eq_true rfl) d_HomeSystem_AnyProcess_reset_2 (w' := wd_Txp cs h r (fun k => if k = 3 then o3 else none) (upd f 17 0) a g) (ps' := [wd_Txp cs h r (fun k => if k = 3 then o3 else none) (upd f 17 0) a g]) rfl rfl (fun H locs hw => ?_)
  refine lv_aload_n S.x S.b d_HomeSystem_AnyProcess_reset_5 rfl (lv_at hl 0 rfl) ?_
  refine lv_bipush (v := (-2)) S.x S.b d_HomeSystem_AnyProcess_reset_6 (by decide) ?_
  refine px_put S k_Txp hT hw 0 0 18 rfl rfl (by decide) m6_138 rfl rfl rfl (Nat.le_of_ble_eq_true rfl) d_HomeSystem_AnyProcess_reset_8 (w' := wd_Txp cs h r (fun k => if k = 3 then o3 else none) (upd (upd f 17 0) 18 (-2)) a g) (ps' := [wd_Txp cs h r (fun k => if k = 3 then o3 else none) (upd (upd f 17 0) 18 (-2)) a g]) rfl rfl (fun H locs hw => ?_)
  refine lv_aload_n S.x S.b d_HomeSystem_AnyProcess_reset_11 rfl (lv_at hl 0 rfl) ?_
  refine lv_iconst (v := 0) S.x S.b d_HomeSystem_AnyProcess_reset_12 (by decide) ?_
  refine px_put S k_Txp hT hw 0 0 19 rfl rfl (by decide) m6_145 rfl rfl rfl (Nat.le_of_ble_eq_true rfl) d_HomeSystem_AnyProcess_reset_13 (w' := wd_Txp cs h r (fun k => if k = 3 then o3 else none) (upd (upd (upd f 17 0) 18 (-2)) 19 0) a g) (ps' := [wd_Txp cs h r (fun k => if k = 3 then o3 else none) (upd (upd (upd f 17 0) 18 (-2)) 19 0) a g]) rfl rfl (fun H locs hw => ?_)
  refine lv_aload_n S.x S.b d_HomeSystem_AnyProcess_reset_16 rfl (lv_at hl 0 rfl) ?_
  refine lv_iconst (v := 0) S.x S.b d_HomeSystem_AnyProcess_reset_17 (by decide) ?_
  refine px_put S k_Txp hT hw 0 0 20 rfl rfl (by decide) m6_148 rfl rfl rfl (Nat.le_of_ble_eq_true rfl) d_HomeSystem_AnyProcess_reset_18 (w' := wd_Txp cs h r (fun k => if k = 3 then o3 else none) (upd (upd (upd (upd f 17 0) 18 (-2)) 19 0) 20 0) a g) (ps' := [wd_Txp cs h r (fun k => if k = 3 then o3 else none) (upd (upd (upd (upd f 17 0) 18 (-2)) 19 0) 20 0) a g]) rfl rfl (fun H locs hw => ?_)
  refine lv_aload_n S.x S.b d_HomeSystem_AnyProcess_reset_21 rfl (lv_at hl 0 rfl) ?_
  refine lv_iconst (v := 0) S.x S.b d_HomeSystem_AnyProcess_reset_22 (by decide) ?_
  refine px_put S k_Txp hT hw 0 0 21 rfl rfl (by decide) m6_150 rfl rfl rfl (Nat.le_of_ble_eq_true rfl) d_HomeSystem_AnyProcess_reset_23 (w' := wd_Txp cs h r (fun k => if k = 3 then o3 else none) (upd (upd (upd (upd (upd f 17 0) 18 (-2)) 19 0) 20 0) 21 0) a g) (ps' := [wd_Txp cs h r (fun k => if k = 3 then o3 else none) (upd (upd (upd (upd (upd f 17 0) 18 (-2)) 19 0) 20 0) 21 0) a g]) rfl rfl (fun H locs hw => ?_)
  exact px_vret S hr hlk hAe hw (Nat.le_of_ble_eq_true rfl) (Nat.le_of_ble_eq_true rfl) (⟨(upd (upd (upd (upd (upd f 17 0) 18 (-2)) 19 0) 20 0) 21 0), a, rfl, (show (0 : Int) = 0 from by first | exact oz_7d1a308c7e | omega), (show (0 : Int) = 0 from by first | exact oz_7d1a308c7e | omega), (show (0 : Int) = 0 from by first | exact oz_7d1a308c7e | omega), (show (-2 : Int) = -2 from by first | exact oz_453f5876af | omega), (show (f 4).toInt = (f 4).toInt from rfl), (show (f 5).toInt = (f 5).toInt from rfl), (show (f 8).toInt = (f 8).toInt from rfl), (show (f 9).toInt = (f 9).toInt from rfl), (show (f 15).toInt = (f 15).toInt from rfl), (show a = a from rfl), (show R_reset_TxpB f a (upd (upd (upd (upd (upd f 17 0) 18 (-2)) 19 0) 20 0) 21 0) a from (Or.inl ⟨rfl, rfl⟩))⟩) d_HomeSystem_AnyProcess_reset_26
abbrev b_Txp_begin : ByteArray := prog_11_method_2_code
def y_Txp_begin : MethodName := ⟨"HomeSystem$TextProcess", "begin", "(LHomeSystem$Program;III)V"⟩
theorem d_Txp_begin_0 : decode b_Txp_begin 0 = .ok (.aload_n 0, 1) := by decide +kernel
theorem d_Txp_begin_1 : decode b_Txp_begin 1 = .ok (.invokevirtual 21, 3) := by decide +kernel
theorem d_Txp_begin_4 : decode b_Txp_begin 4 = .ok (.aload_n 0, 1) := by decide +kernel
theorem d_Txp_begin_5 : decode b_Txp_begin 5 = .ok (.aload_n 1, 1) := by decide +kernel
theorem d_Txp_begin_6 : decode b_Txp_begin 6 = .ok (.putfield 25, 3) := by decide +kernel
theorem d_Txp_begin_9 : decode b_Txp_begin 9 = .ok (.aload_n 0, 1) := by decide +kernel
theorem d_Txp_begin_10 : decode b_Txp_begin 10 = .ok (.iload_n 3, 1) := by decide +kernel
theorem d_Txp_begin_11 : decode b_Txp_begin 11 = .ok (.putfield 29, 3) := by decide +kernel
theorem d_Txp_begin_14 : decode b_Txp_begin 14 = .ok (.aload_n 0, 1) := by decide +kernel
theorem d_Txp_begin_15 : decode b_Txp_begin 15 = .ok (.iload 4, 2) := by decide +kernel
theorem d_Txp_begin_17 : decode b_Txp_begin 17 = .ok (.putfield 33, 3) := by decide +kernel
theorem d_Txp_begin_20 : decode b_Txp_begin 20 = .ok (.aload_n 0, 1) := by decide +kernel
theorem d_Txp_begin_21 : decode b_Txp_begin 21 = .ok (.aload_n 1, 1) := by decide +kernel
theorem d_Txp_begin_22 : decode b_Txp_begin 22 = .ok (.getfield 36, 3) := by decide +kernel
theorem d_Txp_begin_25 : decode b_Txp_begin 25 = .ok (.putfield 41, 3) := by decide +kernel
theorem d_Txp_begin_28 : decode b_Txp_begin 28 = .ok (.aload_n 0, 1) := by decide +kernel
theorem d_Txp_begin_29 : decode b_Txp_begin 29 = .ok (.iconst 0, 1) := by decide +kernel
theorem d_Txp_begin_30 : decode b_Txp_begin 30 = .ok (.putfield 44, 3) := by decide +kernel
theorem d_Txp_begin_33 : decode b_Txp_begin 33 = .ok (.aload_n 0, 1) := by decide +kernel
theorem d_Txp_begin_34 : decode b_Txp_begin 34 = .ok (.iconst 0, 1) := by decide +kernel
theorem d_Txp_begin_35 : decode b_Txp_begin 35 = .ok (.putfield 47, 3) := by decide +kernel
theorem d_Txp_begin_38 : decode b_Txp_begin 38 = .ok (.aload_n 0, 1) := by decide +kernel
theorem d_Txp_begin_39 : decode b_Txp_begin 39 = .ok (.sipush 8192, 3) := by decide +kernel
theorem d_Txp_begin_42 : decode b_Txp_begin 42 = .ok (.putfield 50, 3) := by decide +kernel
theorem d_Txp_begin_45 : decode b_Txp_begin 45 = .ok (.aload_n 0, 1) := by decide +kernel
theorem d_Txp_begin_46 : decode b_Txp_begin 46 = .ok (.sipush 8192, 3) := by decide +kernel
theorem d_Txp_begin_49 : decode b_Txp_begin 49 = .ok (.putfield 53, 3) := by decide +kernel
theorem d_Txp_begin_52 : decode b_Txp_begin 52 = .ok (.aload_n 0, 1) := by decide +kernel
theorem d_Txp_begin_53 : decode b_Txp_begin 53 = .ok (.getfield 9, 3) := by decide +kernel
theorem d_Txp_begin_56 : decode b_Txp_begin 56 = .ok (.iconst 0, 1) := by decide +kernel
theorem d_Txp_begin_57 : decode b_Txp_begin 57 = .ok (.iconst 0, 1) := by decide +kernel
theorem d_Txp_begin_58 : decode b_Txp_begin 58 = .ok (.sipush 8192, 3) := by decide +kernel
theorem d_Txp_begin_61 : decode b_Txp_begin 61 = .ok (.aload_n 1, 1) := by decide +kernel
theorem d_Txp_begin_62 : decode b_Txp_begin 62 = .ok (.getfield 56, 3) := by decide +kernel
theorem d_Txp_begin_65 : decode b_Txp_begin 65 = .ok (.invokestatic 59, 3) := by decide +kernel
theorem d_Txp_begin_68 : decode b_Txp_begin 68 = .ok (.invokestatic 65, 3) := by decide +kernel
theorem d_Txp_begin_71 : decode b_Txp_begin 71 = .ok (.iconst 0, 1) := by decide +kernel
theorem d_Txp_begin_72 : decode b_Txp_begin 72 = .ok (.invokestatic 68, 3) := by decide +kernel
theorem d_Txp_begin_75 : decode b_Txp_begin 75 = .ok (.aload_n 0, 1) := by decide +kernel
theorem d_Txp_begin_76 : decode b_Txp_begin 76 = .ok (.iload_n 2, 1) := by decide +kernel
theorem d_Txp_begin_77 : decode b_Txp_begin 77 = .ok (.invokevirtual 74, 3) := by decide +kernel
theorem d_Txp_begin_80 : decode b_Txp_begin 80 = .ok (.return_, 1) := by decide +kernel
theorem q_Txp_begin : px_y y_Txp_begin 4 := by unfold px_y; decide +kernel
set_option maxHeartbeats 4000000 in
set_option maxRecDepth 100000 in
theorem c_Txp_begin (l : Launch) (D : va_G) (cs : Nat → ClassId) (h : Nat) (r : Nat → Nat) (g : Nat → Nat → Option Nat) (f : Nat → Int32) (a : Nat → Nat → Int32) (o3 : Option Nat) (hp : Nat) (rp : Nat → Nat) (of : Option Nat) (fp : Nat → Int32) (p0 p1 p2 : Int32)  (hinv0 : TxOk (f 4) (f 5) (f 8) (f 9) (f 17) (f 21) (a 2)) (g0 : 0 ≤ p1.toInt) (g1 : p1.toInt ≤ 100) (hst : Lk (fp 4)) : MetV l y_Txp_begin b_Txp_begin 5 D cs 2 60 (0) (0) [.ref h, .ref hp, .int p0, .int p1, .int p2] [wd_Txp cs h r (fun k => if k = 3 then o3 else none) f a g, wd_Prg cs hp rp (fun k => if k = 2 then of else none) fp (fun _ _ => 0) (fun _ _ => none)] (fun _ => True) (fun ps => ∃ (f' : Nat → Int32) (a' : Nat → Nat → Int32) (o3' : Option Nat), (ps = [wd_Txp cs h r (fun k => if k = 3 then o3' else none) f' a' g, wd_Prg cs hp rp (fun k => if k = 2 then of else none) fp (fun _ _ => 0) (fun _ _ => none)]) ∧ (TxOk (f' 4) (f' 5) (f' 8) (f' 9) (f' 17) (f' 21) (a' 2)) ∧ ((f' 15).toInt = (f 15).toInt) ∧ ((f' 17).toInt = 0) ∧ ((f' 20).toInt = 0) ∧ ((f' 21).toInt = 0) ∧ ((some hp) = o3')) := by
  refine px_enter (by decide) (Nat.le_of_ble_eq_true rfl) ?_
  intro p e s m below meth c A ls hAe S hr hlk hnm hA hT hX hw hl
  have hl : lv_has ls 5 [(0, .ref h), (1, .ref hp), (2, .int p0), (3, .int p1), (4, .int p2)] := hl
  have lp0 := Int32.le_toInt p0
  have up0 := Int32.toInt_lt p0
  have lp1 := Int32.le_toInt p1
  have up1 := Int32.toInt_lt p1
  have lp2 := Int32.le_toInt p2
  have up2 := Int32.toInt_lt p2
  have cst0 : (0 : Int32).toInt = 0 := rfl
  have cst8192 : (8192 : Int32).toInt = 8192 := rfl
  obtain ⟨lk, ⟨i2, i3⟩, ⟨i4, i5⟩, ⟨i6, i7⟩, i8, ⟨i9, i11⟩, i10, hrt⟩ := hinv0
  refine lv_aload_n S.x S.b d_Txp_begin_0 rfl (lv_at hl 0 rfl) ?_
  have hw : pw D A s.heap _ _ [wd_Prg cs hp rp (fun k => if k = 2 then of else none) fp (fun _ _ => 0) (fun _ _ => none), wd_Txp cs h r (fun k => if k = 3 then o3 else none) f a g] := hw.sub [1, 0] rfl rfl
  refine px_callv (pr := [wd_Prg cs hp rp (fun k => if k = 2 then of else none) fp (fun _ _ => 0) (fun _ _ => none)]) (px_runU (As := []) (rest := []) S (c_reset_TxpB l D cs h r g o3 f a    _) hT (pr := [wd_Prg cs hp rp (fun k => if k = 2 then of else none) fp (fun _ _ => 0) (fun _ _ => none)]) (pcs := [wd_Txp cs h r (fun k => if k = 3 then o3 else none) f a g]) hw px_X.tt (C := "HomeSystem$TextProcess") (x := ⟨"HomeSystem$TextProcess", "reset", "()V"⟩) (px_recv hT hw 1 0 rfl rfl rfl) m7_40 m7_47 m7_48 m7_39 m7_49 m1_33 rfl q_HomeSystem_AnyProcess_reset ⟨Nat.le_of_ble_eq_true rfl, Nat.le_of_ble_eq_true rfl⟩ hl.1 rfl (Nat.le_of_ble_eq_true rfl) d_Txp_begin_1 ⟨Nat.le_of_ble_eq_true rfl, Nat.le_of_ble_eq_true rfl⟩) hw hA (fun p3 H locs hp3 hw => ?_)
  obtain ⟨f1, a2, rfl, e5, e6, e7, e8, e9, e10, e11, e12, e13, e14, e15⟩ := hp3
  have e5 : (f1 17).toInt = 0 := e5
  have e6 : (f1 21).toInt = 0 := e6
  have e7 : (f1 20).toInt = 0 := e7
  have e8 : (f1 18).toInt = -2 := e8
  have e9 : (f1 4).toInt = (f 4).toInt := e9
  have e10 : (f1 5).toInt = (f 5).toInt := e10
  have e11 : (f1 8).toInt = (f 8).toInt := e11
  have e12 : (f1 9).toInt = (f 9).toInt := e12
  have e13 : (f1 15).toInt = (f 15).toInt := e13
  subst e14
  have e15 : R_reset_TxpB f a f1 a := e15
  have hw : pw D A s.heap H locs [wd_Prg cs hp rp (fun k => if k = 2 then of else none) fp (fun _ _ => 0) (fun _ _ => none), wd_Txp cs h r (fun k => if k = 3 then o3 else none) f1 a g] := hw
  refine lv_aload_n S.x S.b d_Txp_begin_4 rfl (lv_at hl 0 rfl) ?_
  refine lv_aload_n S.x S.b d_Txp_begin_5 rfl (lv_at hl 1 rfl) ?_
  refine px_put S k_Txp hT hw 1 0 3 rfl rfl (by decide) m6_216 rfl rfl rfl (Nat.le_of_ble_eq_true rfl) d_Txp_begin_6 (w' := wd_Txp cs h r (fun k => if k = 3 then (some hp) else none) f1 a g) (ps' := [wd_Prg cs hp rp (fun k => if k = 2 then of else none) fp (fun _ _ => 0) (fun _ _ => none), wd_Txp cs h r (fun k => if k = 3 then (some hp) else none) f1 a g]) rfl rfl (fun H locs hw => ?_)
  refine lv_aload_n S.x S.b d_Txp_begin_9 rfl (lv_at hl 0 rfl) ?_
  refine lv_iload_n S.x S.b d_Txp_begin_10 rfl (lv_at hl 3 rfl) ?_
  refine px_put S k_Txp hT hw 1 0 9 rfl rfl (by decide) m6_222 rfl rfl rfl (Nat.le_of_ble_eq_true rfl) d_Txp_begin_11 (w' := wd_Txp cs h r (fun k => if k = 3 then (some hp) else none) (upd f1 9 p1) a g) (ps' := [wd_Prg cs hp rp (fun k => if k = 2 then of else none) fp (fun _ _ => 0) (fun _ _ => none), wd_Txp cs h r (fun k => if k = 3 then (some hp) else none) (upd f1 9 p1) a g]) rfl rfl (fun H locs hw => ?_)
  refine lv_aload_n S.x S.b d_Txp_begin_14 rfl (lv_at hl 0 rfl) ?_
  refine lv_iload S.x S.b d_Txp_begin_15 (lv_at hl 4 rfl) ?_
  refine px_put S k_Txp hT hw 1 0 10 rfl rfl (by decide) m6_223 rfl rfl rfl (Nat.le_of_ble_eq_true rfl) d_Txp_begin_17 (w' := wd_Txp cs h r (fun k => if k = 3 then (some hp) else none) (upd (upd f1 9 p1) 10 p2) a g) (ps' := [wd_Prg cs hp rp (fun k => if k = 2 then of else none) fp (fun _ _ => 0) (fun _ _ => none), wd_Txp cs h r (fun k => if k = 3 then (some hp) else none) (upd (upd f1 9 p1) 10 p2) a g]) rfl rfl (fun H locs hw => ?_)
  refine lv_aload_n S.x S.b d_Txp_begin_20 rfl (lv_at hl 0 rfl) ?_
  refine lv_aload_n S.x S.b d_Txp_begin_21 rfl (lv_at hl 1 rfl) ?_
  refine px_get S k_Prg hT hw 0 0 4 (v := .int (fp 4)) rfl rfl rfl (by decide) m2_108 d_Txp_begin_22 ?_
  refine px_put S k_Txp hT hw 1 0 4 rfl rfl (by decide) m6_217 rfl rfl rfl (Nat.le_of_ble_eq_true rfl) d_Txp_begin_25 (w' := wd_Txp cs h r (fun k => if k = 3 then (some hp) else none) (upd (upd (upd f1 4 (fp 4)) 9 p1) 10 p2) a g) (ps' := [wd_Prg cs hp rp (fun k => if k = 2 then of else none) fp (fun _ _ => 0) (fun _ _ => none), wd_Txp cs h r (fun k => if k = 3 then (some hp) else none) (upd (upd (upd f1 4 (fp 4)) 9 p1) 10 p2) a g]) rfl rfl (fun H locs hw => ?_)
  refine lv_aload_n S.x S.b d_Txp_begin_28 rfl (lv_at hl 0 rfl) ?_
  refine lv_iconst (v := 0) S.x S.b d_Txp_begin_29 (by decide) ?_
  refine px_put S k_Txp hT hw 1 0 5 rfl rfl (by decide) m6_218 rfl rfl rfl (Nat.le_of_ble_eq_true rfl) d_Txp_begin_30 (w' := wd_Txp cs h r (fun k => if k = 3 then (some hp) else none) (upd (upd (upd (upd f1 4 (fp 4)) 5 0) 9 p1) 10 p2) a g) (ps' := [wd_Prg cs hp rp (fun k => if k = 2 then of else none) fp (fun _ _ => 0) (fun _ _ => none), wd_Txp cs h r (fun k => if k = 3 then (some hp) else none) (upd (upd (upd (upd f1 4 (fp 4)) 5 0) 9 p1) 10 p2) a g]) rfl rfl (fun H locs hw => ?_)
  refine lv_aload_n S.x S.b d_Txp_begin_33 rfl (lv_at hl 0 rfl) ?_
  refine lv_iconst (v := 0) S.x S.b d_Txp_begin_34 (by decide) ?_
  refine px_put S k_Txp hT hw 1 0 8 rfl rfl (by decide) m6_221 rfl rfl rfl (Nat.le_of_ble_eq_true rfl) d_Txp_begin_35 (w' := wd_Txp cs h r (fun k => if k = 3 then (some hp) else none) (upd (upd (upd (upd (upd f1 4 (fp 4)) 5 0) 8 0) 9 p1) 10 p2) a g) (ps' := [wd_Prg cs hp rp (fun k => if k = 2 then of else none) fp (fun _ _ => 0) (fun _ _ => none), wd_Txp cs h r (fun k => if k = 3 then (some hp) else none) (upd (upd (upd (upd (upd f1 4 (fp 4)) 5 0) 8 0) 9 p1) 10 p2) a g]) rfl rfl (fun H locs hw => ?_)
  refine lv_aload_n S.x S.b d_Txp_begin_38 rfl (lv_at hl 0 rfl) ?_
  refine lv_sipush (v := 8192) S.x S.b d_Txp_begin_39 (by decide) ?_
  refine px_put S k_Txp hT hw 1 0 6 rfl rfl (by decide) m6_219 rfl rfl rfl (Nat.le_of_ble_eq_true rfl) d_Txp_begin_42 (w' := wd_Txp cs h r (fun k => if k = 3 then (some hp) else none) (upd (upd (upd (upd (upd (upd f1 4 (fp 4)) 5 0) 6 8192) 8 0) 9 p1) 10 p2) a g) (ps' := [wd_Prg cs hp rp (fun k => if k = 2 then of else none) fp (fun _ _ => 0) (fun _ _ => none), wd_Txp cs h r (fun k => if k = 3 then (some hp) else none) (upd (upd (upd (upd (upd (upd f1 4 (fp 4)) 5 0) 6 8192) 8 0) 9 p1) 10 p2) a g]) rfl rfl (fun H locs hw => ?_)
  refine lv_aload_n S.x S.b d_Txp_begin_45 rfl (lv_at hl 0 rfl) ?_
  refine lv_sipush (v := 8192) S.x S.b d_Txp_begin_46 (by decide) ?_
  refine px_put S k_Txp hT hw 1 0 7 rfl rfl (by decide) m6_220 rfl rfl rfl (Nat.le_of_ble_eq_true rfl) d_Txp_begin_49 (w' := wd_Txp cs h r (fun k => if k = 3 then (some hp) else none) (upd (upd (upd (upd (upd (upd (upd f1 4 (fp 4)) 5 0) 6 8192) 7 8192) 8 0) 9 p1) 10 p2) a g) (ps' := [wd_Prg cs hp rp (fun k => if k = 2 then of else none) fp (fun _ _ => 0) (fun _ _ => none), wd_Txp cs h r (fun k => if k = 3 then (some hp) else none) (upd (upd (upd (upd (upd (upd (upd f1 4 (fp 4)) 5 0) 6 8192) 7 8192) 8 0) 9 p1) 10 p2) a g]) rfl rfl (fun H locs hw => ?_)
  refine lv_aload_n S.x S.b d_Txp_begin_52 rfl (lv_at hl 0 rfl) ?_
  refine px_get S k_Txp hT hw 1 0 0 (v := .ref (r 0)) rfl rfl rfl (by decide) m6_213 d_Txp_begin_53 ?_
  refine lv_iconst (v := 0) S.x S.b d_Txp_begin_56 (by decide) ?_
  refine lv_iconst (v := 0) S.x S.b d_Txp_begin_57 (by decide) ?_
  refine lv_sipush (v := 8192) S.x S.b d_Txp_begin_58 (by decide) ?_
  refine lv_aload_n S.x S.b d_Txp_begin_61 rfl (lv_at hl 1 rfl) ?_
  refine px_get S k_Prg hT hw 0 0 5 (v := .int (fp 5)) rfl rfl rfl (by decide) m2_110 d_Txp_begin_62 ?_
  refine va_mmin S.x S.b (by rw [S.ml]; exact hl.1.symm) S.own (S.w m7_50) (S.w m2_68) (S.w m1_13) (S.w m2_69) (Nat.le_of_ble_eq_true rfl) (Nat.le_of_ble_eq_true rfl) (Nat.zero_le _) (Nat.zero_le _) d_Txp_begin_65 ?_
  refine lv_topi (fun z16 ez16 => ?_)
  have tz16 := i_min 8192 (fp 5) ez16
  have lz16 := Int32.le_toInt z16
  have uz16 := Int32.toInt_lt z16
  refine va_mmax S.x S.b (by rw [S.ml]; exact hl.1.symm) S.own (S.w m7_51) (S.w m2_26) (S.w m1_13) (S.w m2_27) (Nat.le_of_ble_eq_true rfl) (Nat.le_of_ble_eq_true rfl) (Nat.zero_le _) (Nat.zero_le _) d_Txp_begin_68 ?_
  refine lv_topi (fun z17 ez17 => ?_)
  have tz17 := i_max 0 z16 ez17
  have lz17 := Int32.le_toInt z17
  have uz17 := Int32.toInt_lt z17
  refine lv_iconst (v := 0) S.x S.b d_Txp_begin_71 (by decide) ?_
  have hw : pw D A s.heap _ _ [wd_Prg cs hp rp (fun k => if k = 2 then of else none) fp (fun _ _ => 0) (fun _ _ => none), [(h, .inr (10, [.ref (r 0), .ref (r 1), .ref (r 2), .ref hp, .int (fp 4), .int 0, .int 8192, .int 8192, .int 0, .int p1, .int p2, .int (f1 11), .int (f1 12), .int (f1 13), .int (f1 14), .int (f1 15), .ref (r 16), .int (f1 17), .int (f1 18), .int (f1 19), .int (f1 20), .int (f1 21), .int (f1 22), .int (f1 23), .int (f1 24)]))], [((r 0), .inl (cs 0, 8704, .inl (a 0)))], [((r 1), .inl (cs 0, 516, .inl (a 1)))], [((r 2), .inl (cs 0, 303, .inl (a 2)))], [((r 16), .inl (cs 0, 256, .inl (a 16)))]] := hw.eq rfl
  have hw : pw D A s.heap _ _ [wd_Prg cs hp rp (fun k => if k = 2 then of else none) fp (fun _ _ => 0) (fun _ _ => none), [(h, .inr (10, [.ref (r 0), .ref (r 1), .ref (r 2), .ref hp, .int (fp 4), .int 0, .int 8192, .int 8192, .int 0, .int p1, .int p2, .int (f1 11), .int (f1 12), .int (f1 13), .int (f1 14), .int (f1 15), .ref (r 16), .int (f1 17), .int (f1 18), .int (f1 19), .int (f1 20), .int (f1 21), .int (f1 22), .int (f1 23), .int (f1 24)]))], [((r 1), .inl (cs 0, 516, .inl (a 1)))], [((r 2), .inl (cs 0, 303, .inl (a 2)))], [((r 16), .inl (cs 0, 256, .inl (a 16)))], [((r 0), .inl (cs 0, 8704, .inl (a 0)))]] := hw.sub [0, 1, 3, 4, 5, 2] rfl rfl
  refine px_callv (pr := [wd_Prg cs hp rp (fun k => if k = 2 then of else none) fp (fun _ _ => 0) (fun _ _ => none), [(h, .inr (10, [.ref (r 0), .ref (r 1), .ref (r 2), .ref hp, .int (fp 4), .int 0, .int 8192, .int 8192, .int 0, .int p1, .int p2, .int (f1 11), .int (f1 12), .int (f1 13), .int (f1 14), .int (f1 15), .ref (r 16), .int (f1 17), .int (f1 18), .int (f1 19), .int (f1 20), .int (f1 21), .int (f1 22), .int (f1 23), .int (f1 24)]))], [((r 1), .inl (cs 0, 516, .inl (a 1)))], [((r 2), .inl (cs 0, 303, .inl (a 2)))], [((r 16), .inl (cs 0, 256, .inl (a 16)))]]) (px_runS (As := [.ref (r 0), .int 0, .int z17, .int 0]) (rest := []) S (c_Arrays_fill4 l D cs (r 0) 8704 (a 0) 0 z17 0  (show 8704 ≤ 1000000 from by omega) (show 0 ≤ (0 : Int) from by first | exact oz_5a341f00aa | omega) (show (0 : Int) ≤ z17.toInt from by omega) (show z17.toInt ≤ (8704 : Int) from by omega) _) hT (pr := [wd_Prg cs hp rp (fun k => if k = 2 then of else none) fp (fun _ _ => 0) (fun _ _ => none), [(h, .inr (10, [.ref (r 0), .ref (r 1), .ref (r 2), .ref hp, .int (fp 4), .int 0, .int 8192, .int 8192, .int 0, .int p1, .int p2, .int (f1 11), .int (f1 12), .int (f1 13), .int (f1 14), .int (f1 15), .ref (r 16), .int (f1 17), .int (f1 18), .int (f1 19), .int (f1 20), .int (f1 21), .int (f1 22), .int (f1 23), .int (f1 24)]))], [((r 1), .inl (cs 0, 516, .inl (a 1)))], [((r 2), .inl (cs 0, 303, .inl (a 2)))], [((r 16), .inl (cs 0, 256, .inl (a 16)))]]) (pcs := [[((r 0), .inl (cs 0, 8704, .inl (a 0)))]]) hw px_X.tt m7_54 m7_52 m7_53 m1_14 q_Arrays_fill2 ⟨Nat.le_of_ble_eq_true rfl, Nat.le_of_ble_eq_true rfl⟩ hl.1 rfl (Nat.le_of_ble_eq_true rfl) d_Txp_begin_72 ⟨Nat.le_of_ble_eq_true rfl, Nat.le_of_ble_eq_true rfl⟩) hw hA (fun p19 H locs hp19 hw => ?_)
  obtain ⟨ca18, rfl⟩ := hp19
  have hw : pw D A s.heap H locs [wd_Prg cs hp rp (fun k => if k = 2 then of else none) fp (fun _ _ => 0) (fun _ _ => none), [(h, .inr (10, [.ref (r 0), .ref (r 1), .ref (r 2), .ref hp, .int (fp 4), .int 0, .int 8192, .int 8192, .int 0, .int p1, .int p2, .int (f1 11), .int (f1 12), .int (f1 13), .int (f1 14), .int (f1 15), .ref (r 16), .int (f1 17), .int (f1 18), .int (f1 19), .int (f1 20), .int (f1 21), .int (f1 22), .int (f1 23), .int (f1 24)]))], [((r 1), .inl (cs 0, 516, .inl (a 1)))], [((r 2), .inl (cs 0, 303, .inl (a 2)))], [((r 16), .inl (cs 0, 256, .inl (a 16)))], [((r 0), .inl (cs 0, 8704, .inl ca18))]] := hw
  have hw : pw D A s.heap _ _ [wd_Prg cs hp rp (fun k => if k = 2 then of else none) fp (fun _ _ => 0) (fun _ _ => none), [(h, .inr (10, [.ref (r 0), .ref (r 1), .ref (r 2), .ref hp, .int (fp 4), .int 0, .int 8192, .int 8192, .int 0, .int p1, .int p2, .int (f1 11), .int (f1 12), .int (f1 13), .int (f1 14), .int (f1 15), .ref (r 16), .int (f1 17), .int (f1 18), .int (f1 19), .int (f1 20), .int (f1 21), .int (f1 22), .int (f1 23), .int (f1 24)]))], [((r 0), .inl (cs 0, 8704, .inl ca18))], [((r 1), .inl (cs 0, 516, .inl (a 1)))], [((r 2), .inl (cs 0, 303, .inl (a 2)))], [((r 16), .inl (cs 0, 256, .inl (a 16)))]] := hw.sub [0, 1, 5, 2, 3, 4] rfl rfl
  have hw : pw D A s.heap _ _ [wd_Prg cs hp rp (fun k => if k = 2 then of else none) fp (fun _ _ => 0) (fun _ _ => none), wd_Txp cs h r (fun k => if k = 3 then (some hp) else none) (upd (upd (upd (upd (upd (upd (upd f1 4 (fp 4)) 5 0) 6 8192) 7 8192) 8 0) 9 p1) 10 p2) (va_up a 0 ca18) g] := hw.eq rfl
  refine lv_aload_n S.x S.b d_Txp_begin_75 rfl (lv_at hl 0 rfl) ?_
  refine lv_iload_n S.x S.b d_Txp_begin_76 rfl (lv_at hl 2 rfl) ?_
  refine px_callv (pr := [wd_Prg cs hp rp (fun k => if k = 2 then of else none) fp (fun _ _ => 0) (fun _ _ => none)]) (px_runV (As := [.int p0]) (rest := []) S (c_Txp_push l D cs h r g hp (upd (upd (upd (upd (upd (upd (upd f1 4 (fp 4)) 5 0) 6 8192) 7 8192) 8 0) 9 p1) 10 p2) (va_up a 0 ca18) p0  (show TxOk (fp 4) 0 0 p1 (f1 17) (f1 21) ((va_up a 0 ca18) 2) from ⟨hst, ⟨by omega, by omega⟩, ⟨by omega, by omega⟩, ⟨by first | exact g0 | omega, by first | exact g1 | omega⟩, by first | exact oz_b1de7dbe7e e5 | omega, ⟨by first | exact oz_b1de7dbe7e e6 | omega, by first | exact oz_270f4ea0b1 e6 | omega⟩, by first | exact oz_40612aa3f6 g1 e5 e6 | omega, (by rw [va_up_n (by decide)]; exact hrt)⟩) _) hT (pr := [wd_Prg cs hp rp (fun k => if k = 2 then of else none) fp (fun _ _ => 0) (fun _ _ => none)]) (pcs := [wd_Txp cs h r (fun k => if k = 3 then (some hp) else none) (upd (upd (upd (upd (upd (upd (upd f1 4 (fp 4)) 5 0) 6 8192) 7 8192) 8 0) 9 p1) 10 p2) (va_up a 0 ca18) g]) hw px_X.tt (px_recv hT hw 1 0 rfl rfl rfl) m8_47 m8_44 m8_46 ms_5_6 m1_35 q_Txp_push ⟨Nat.le_of_ble_eq_true rfl, Nat.le_of_ble_eq_true rfl⟩ hl.1 rfl (Nat.le_of_ble_eq_true rfl) d_Txp_begin_77 ⟨Nat.le_of_ble_eq_true rfl, Nat.le_of_ble_eq_true rfl⟩) hw hA (fun p23 H locs hp23 hw => ?_)
  obtain ⟨f21, a22, rfl, h32, e25, e26, e27, e28, e29, e30, e31⟩ := hp23
  obtain ⟨lk, ⟨i2, i3⟩, ⟨i4, i5⟩, ⟨i6, i7⟩, i8, ⟨i9, i11⟩, i10, hrt⟩ := h32
  have e25 : (f21 9).toInt = p1.toInt := e25
  have e26 : (f21 17).toInt = (f1 17).toInt := e26
  have e27 : (f21 21).toInt = (f1 21).toInt := e27
  have e28 : (f21 15).toInt = (f1 15).toInt := e28
  have e29 : (f21 20).toInt = (f1 20).toInt := e29
  have e30 : (f21 4).toInt = (fp 4).toInt := e30
  have e31 : R_Txp_push p0 (upd (upd (upd (upd (upd (upd (upd f1 4 (fp 4)) 5 0) 6 8192) 7 8192) 8 0) 9 p1) 10 p2) (va_up a 0 ca18) f21 a22 := e31
  have hw : pw D A s.heap H locs [wd_Prg cs hp rp (fun k => if k = 2 then of else none) fp (fun _ _ => 0) (fun _ _ => none), wd_Txp cs h r (fun k => if k = 3 then (some hp) else none) f21 a22 g] := hw
  have hw : pw D A s.heap _ _ [wd_Txp cs h r (fun k => if k = 3 then (some hp) else none) f21 a22 g, wd_Prg cs hp rp (fun k => if k = 2 then of else none) fp (fun _ _ => 0) (fun _ _ => none)] := hw.sub [1, 0] rfl rfl
  exact px_vret S hr hlk hAe hw (Nat.le_of_ble_eq_true rfl) (Nat.le_of_ble_eq_true rfl) (⟨f21, a22, (some hp), rfl, (show TxOk (f21 4) (f21 5) (f21 8) (f21 9) (f21 17) (f21 21) (a22 2) from ⟨lk, ⟨by first | exact i2 | omega, by first | exact i3 | omega⟩, ⟨by first | exact i4 | omega, by first | exact i5 | omega⟩, ⟨by first | exact i6 | omega, by first | exact i7 | omega⟩, by first | exact i8 | omega, ⟨by first | exact i9 | omega, by first | exact i11 | omega⟩, by first | exact i10 | omega, hrt⟩), (show (f21 15).toInt = (f 15).toInt from by first | exact oz_1687f4cc65 e13 e28 | omega), (show (f21 17).toInt = 0 from by first | exact oz_4193540c58 e26 e5 | omega), (show (f21 20).toInt = 0 from by first | exact oz_4193540c58 e29 e7 | omega), (show (f21 21).toInt = 0 from by first | exact oz_4193540c58 e27 e6 | omega), (show (some hp) = (some hp) from rfl)⟩) d_Txp_begin_80
abbrev b_Tok_doubled : ByteArray := prog_12_method_20_code
def y_Tok_doubled : MethodName := ⟨"HomeSystem$Tokens", "doubled", "(I)I"⟩
theorem d_Tok_doubled_0 : decode b_Tok_doubled 0 = .ok (.iload_n 0, 1) := by decide +kernel
theorem d_Tok_doubled_1 : decode b_Tok_doubled 1 = .ok (.lookupswitch 83 #[(38, 67), (43, 59), (45, 63), (60, 75), (62, 79), (124, 71)], 59) := by decide +kernel
theorem d_Tok_doubled_60 : decode b_Tok_doubled 60 = .ok (.sipush 138, 3) := by decide +kernel
theorem d_Tok_doubled_63 : decode b_Tok_doubled 63 = .ok (.ireturn, 1) := by decide +kernel
theorem d_Tok_doubled_64 : decode b_Tok_doubled 64 = .ok (.sipush 139, 3) := by decide +kernel
theorem d_Tok_doubled_67 : decode b_Tok_doubled 67 = .ok (.ireturn, 1) := by decide +kernel
theorem d_Tok_doubled_68 : decode b_Tok_doubled 68 = .ok (.sipush 136, 3) := by decide +kernel
theorem d_Tok_doubled_71 : decode b_Tok_doubled 71 = .ok (.ireturn, 1) := by decide +kernel
theorem d_Tok_doubled_72 : decode b_Tok_doubled 72 = .ok (.sipush 137, 3) := by decide +kernel
theorem d_Tok_doubled_75 : decode b_Tok_doubled 75 = .ok (.ireturn, 1) := by decide +kernel
theorem d_Tok_doubled_76 : decode b_Tok_doubled 76 = .ok (.sipush 134, 3) := by decide +kernel
theorem d_Tok_doubled_79 : decode b_Tok_doubled 79 = .ok (.ireturn, 1) := by decide +kernel
theorem d_Tok_doubled_80 : decode b_Tok_doubled 80 = .ok (.sipush 135, 3) := by decide +kernel
theorem d_Tok_doubled_83 : decode b_Tok_doubled 83 = .ok (.ireturn, 1) := by decide +kernel
theorem d_Tok_doubled_84 : decode b_Tok_doubled 84 = .ok (.iconst 0, 1) := by decide +kernel
theorem d_Tok_doubled_85 : decode b_Tok_doubled 85 = .ok (.ireturn, 1) := by decide +kernel
theorem q_Tok_doubled : px_y y_Tok_doubled 1 := by unfold px_y; decide +kernel
set_option maxHeartbeats 4000000 in
set_option maxRecDepth 100000 in
theorem c_Tok_doubled (l : Launch) (D : va_G) (cs : Nat → ClassId)  (p0 : Int32)  : MetI l y_Tok_doubled b_Tok_doubled 1 (.int) D cs 0 0 (0) (0) [.int p0] [] (fun _ => True) (fun v ps => (ps = [])) := by
  refine px_enter (by decide) (Nat.le_of_ble_eq_true rfl) ?_
  intro p e s m below meth c A ls hAe S hr hlk hnm hA hT hX hw hl
  have hl : lv_has ls 1 [(0, .int p0)] := hl
  have lp0 := Int32.le_toInt p0
  have up0 := Int32.toInt_lt p0
  have cst0 : (0 : Int32).toInt = 0 := rfl
  have cst134 : (134 : Int32).toInt = 134 := rfl
  have cst135 : (135 : Int32).toInt = 135 := rfl
  have cst136 : (136 : Int32).toInt = 136 := rfl
  have cst137 : (137 : Int32).toInt = 137 := rfl
  have cst138 : (138 : Int32).toInt = 138 := rfl
  have cst139 : (139 : Int32).toInt = 139 := rfl
  refine lv_iload_n S.x S.b d_Tok_doubled_0 rfl (lv_at hl 0 rfl) ?_
  refine px_lookD S (dt := 84) [38, 43, 45, 60, 62, 124] [(68, [38]), (60, [43]), (64, [45]), (76, [60]), (80, [62]), (72, [124])] d_Tok_doubled_1 (by decide +kernel) (by decide) (by decide +kernel) (by decide +kernel) ?_ ?_
  · intro hdf_1
    refine lv_iconst (v := 0) S.x S.b d_Tok_doubled_84 (by decide) ?_
    exact px_iret (v := 0) S hr rfl hlk hAe hw (Nat.le_of_ble_eq_true rfl) (Nat.le_of_ble_eq_true rfl) (rfl) d_Tok_doubled_85
  · refine List.forall_mem_cons.mpr ⟨fun c2 => ?_, List.forall_mem_cons.mpr ⟨fun c2 => ?_, List.forall_mem_cons.mpr ⟨fun c2 => ?_, List.forall_mem_cons.mpr ⟨fun c2 => ?_, List.forall_mem_cons.mpr ⟨fun c2 => ?_, List.forall_mem_cons.mpr ⟨fun c2 => ?_, fun _ h => absurd h List.not_mem_nil⟩⟩⟩⟩⟩⟩
    · simp only [List.mem_cons, List.not_mem_nil, or_false] at c2
      refine lv_sipush (v := 136) S.x S.b d_Tok_doubled_68 (by decide) ?_
      exact px_iret (v := 136) S hr rfl hlk hAe hw (Nat.le_of_ble_eq_true rfl) (Nat.le_of_ble_eq_true rfl) (rfl) d_Tok_doubled_71
    · simp only [List.mem_cons, List.not_mem_nil, or_false] at c2
      refine lv_sipush (v := 138) S.x S.b d_Tok_doubled_60 (by decide) ?_
      exact px_iret (v := 138) S hr rfl hlk hAe hw (Nat.le_of_ble_eq_true rfl) (Nat.le_of_ble_eq_true rfl) (rfl) d_Tok_doubled_63
    · simp only [List.mem_cons, List.not_mem_nil, or_false] at c2
      refine lv_sipush (v := 139) S.x S.b d_Tok_doubled_64 (by decide) ?_
      exact px_iret (v := 139) S hr rfl hlk hAe hw (Nat.le_of_ble_eq_true rfl) (Nat.le_of_ble_eq_true rfl) (rfl) d_Tok_doubled_67
    · simp only [List.mem_cons, List.not_mem_nil, or_false] at c2
      refine lv_sipush (v := 134) S.x S.b d_Tok_doubled_76 (by decide) ?_
      exact px_iret (v := 134) S hr rfl hlk hAe hw (Nat.le_of_ble_eq_true rfl) (Nat.le_of_ble_eq_true rfl) (rfl) d_Tok_doubled_79
    · simp only [List.mem_cons, List.not_mem_nil, or_false] at c2
      refine lv_sipush (v := 135) S.x S.b d_Tok_doubled_80 (by decide) ?_
      exact px_iret (v := 135) S hr rfl hlk hAe hw (Nat.le_of_ble_eq_true rfl) (Nat.le_of_ble_eq_true rfl) (rfl) d_Tok_doubled_83
    · simp only [List.mem_cons, List.not_mem_nil, or_false] at c2
      refine lv_sipush (v := 137) S.x S.b d_Tok_doubled_72 (by decide) ?_
      exact px_iret (v := 137) S hr rfl hlk hAe hw (Nat.le_of_ble_eq_true rfl) (Nat.le_of_ble_eq_true rfl) (rfl) d_Tok_doubled_75
abbrev b_Tok_withEquals : ByteArray := prog_12_method_21_code
def y_Tok_withEquals : MethodName := ⟨"HomeSystem$Tokens", "withEquals", "(I)I"⟩
theorem d_Tok_withEquals_0 : decode b_Tok_withEquals 0 = .ok (.iload_n 0, 1) := by decide +kernel
theorem d_Tok_withEquals_1 : decode b_Tok_withEquals 1 = .ok (.lookupswitch 145 #[(33, 127), (37, 139), (38, 139), (42, 139), (43, 139), (45, 139), (47, 139), (60, 131), (62, 135), (94, 139), (124, 139), (134, 139), (135, 139), (256, 123)], 123) := by decide +kernel
theorem d_Tok_withEquals_124 : decode b_Tok_withEquals 124 = .ok (.sipush 130, 3) := by decide +kernel
theorem d_Tok_withEquals_127 : decode b_Tok_withEquals 127 = .ok (.ireturn, 1) := by decide +kernel
theorem d_Tok_withEquals_128 : decode b_Tok_withEquals 128 = .ok (.sipush 131, 3) := by decide +kernel
theorem d_Tok_withEquals_131 : decode b_Tok_withEquals 131 = .ok (.ireturn, 1) := by decide +kernel
theorem d_Tok_withEquals_132 : decode b_Tok_withEquals 132 = .ok (.sipush 132, 3) := by decide +kernel
theorem d_Tok_withEquals_135 : decode b_Tok_withEquals 135 = .ok (.ireturn, 1) := by decide +kernel
theorem d_Tok_withEquals_136 : decode b_Tok_withEquals 136 = .ok (.sipush 133, 3) := by decide +kernel
theorem d_Tok_withEquals_139 : decode b_Tok_withEquals 139 = .ok (.ireturn, 1) := by decide +kernel
theorem d_Tok_withEquals_140 : decode b_Tok_withEquals 140 = .ok (.sipush 256, 3) := by decide +kernel
theorem d_Tok_withEquals_143 : decode b_Tok_withEquals 143 = .ok (.iload_n 0, 1) := by decide +kernel
theorem d_Tok_withEquals_144 : decode b_Tok_withEquals 144 = .ok (.iadd, 1) := by decide +kernel
theorem d_Tok_withEquals_145 : decode b_Tok_withEquals 145 = .ok (.ireturn, 1) := by decide +kernel
theorem d_Tok_withEquals_146 : decode b_Tok_withEquals 146 = .ok (.iconst 0, 1) := by decide +kernel
theorem d_Tok_withEquals_147 : decode b_Tok_withEquals 147 = .ok (.ireturn, 1) := by decide +kernel
theorem q_Tok_withEquals : px_y y_Tok_withEquals 1 := by unfold px_y; decide +kernel
set_option maxHeartbeats 4000000 in
set_option maxRecDepth 100000 in
theorem c_Tok_withEquals (l : Launch) (D : va_G) (cs : Nat → ClassId)  (p0 : Int32)  : MetI l y_Tok_withEquals b_Tok_withEquals 1 (.int) D cs 0 0 (0) (0) [.int p0] [] (fun _ => True) (fun v ps => (ps = [])) := by
  refine px_enter (by decide) (Nat.le_of_ble_eq_true rfl) ?_
  intro p e s m below meth c A ls hAe S hr hlk hnm hA hT hX hw hl
  have hl : lv_has ls 1 [(0, .int p0)] := hl
  have lp0 := Int32.le_toInt p0
  have up0 := Int32.toInt_lt p0
  have cst0 : (0 : Int32).toInt = 0 := rfl
  have cst130 : (130 : Int32).toInt = 130 := rfl
  have cst131 : (131 : Int32).toInt = 131 := rfl
  have cst132 : (132 : Int32).toInt = 132 := rfl
  have cst133 : (133 : Int32).toInt = 133 := rfl
  have cst256 : (256 : Int32).toInt = 256 := rfl
  refine lv_iload_n S.x S.b d_Tok_withEquals_0 rfl (lv_at hl 0 rfl) ?_
  refine px_lookD S (dt := 146) [33, 37, 38, 42, 43, 45, 47, 60, 62, 94, 124, 134, 135, 256] [(128, [33]), (140, [37, 38, 42, 43, 45, 47, 94, 124, 134, 135]), (132, [60]), (136, [62]), (124, [256])] d_Tok_withEquals_1 (by decide +kernel) (by decide) (by decide +kernel) (by decide +kernel) ?_ ?_
  · intro hdf_1
    refine lv_iconst (v := 0) S.x S.b d_Tok_withEquals_146 (by decide) ?_
    exact px_iret (v := 0) S hr rfl hlk hAe hw (Nat.le_of_ble_eq_true rfl) (Nat.le_of_ble_eq_true rfl) (rfl) d_Tok_withEquals_147
  · refine List.forall_mem_cons.mpr ⟨fun c2 => ?_, List.forall_mem_cons.mpr ⟨fun c2 => ?_, List.forall_mem_cons.mpr ⟨fun c2 => ?_, List.forall_mem_cons.mpr ⟨fun c2 => ?_, List.forall_mem_cons.mpr ⟨fun c2 => ?_, fun _ h => absurd h List.not_mem_nil⟩⟩⟩⟩⟩
    · simp only [List.mem_cons, List.not_mem_nil, or_false] at c2
      refine lv_sipush (v := 131) S.x S.b d_Tok_withEquals_128 (by decide) ?_
      exact px_iret (v := 131) S hr rfl hlk hAe hw (Nat.le_of_ble_eq_true rfl) (Nat.le_of_ble_eq_true rfl) (rfl) d_Tok_withEquals_131
    · simp only [List.mem_cons, List.not_mem_nil, or_false] at c2
      refine lv_sipush (v := 256) S.x S.b d_Tok_withEquals_140 (by decide) ?_
      refine lv_iload_n S.x S.b d_Tok_withEquals_143 rfl (lv_at hl 0 rfl) ?_
      refine lv_iadd S.x S.b d_Tok_withEquals_144 ?_
      refine lv_topi (fun z3 ez3 => ?_)
      have tz3 : z3.toInt = ((256 : Int) + p0.toInt + 2147483648) % 4294967296 - 2147483648 := by rw [ez3]; exact i_add 256 p0
      have lz3 := Int32.le_toInt z3
      have uz3 := Int32.toInt_lt z3
      try replace tz3 : z3.toInt = (256 : Int) + p0.toInt := by omega
      exact px_iret (v := z3) S hr rfl hlk hAe hw (Nat.le_of_ble_eq_true rfl) (Nat.le_of_ble_eq_true rfl) (rfl) d_Tok_withEquals_145
    · simp only [List.mem_cons, List.not_mem_nil, or_false] at c2
      refine lv_sipush (v := 132) S.x S.b d_Tok_withEquals_132 (by decide) ?_
      exact px_iret (v := 132) S hr rfl hlk hAe hw (Nat.le_of_ble_eq_true rfl) (Nat.le_of_ble_eq_true rfl) (rfl) d_Tok_withEquals_135
    · simp only [List.mem_cons, List.not_mem_nil, or_false] at c2
      refine lv_sipush (v := 133) S.x S.b d_Tok_withEquals_136 (by decide) ?_
      exact px_iret (v := 133) S hr rfl hlk hAe hw (Nat.le_of_ble_eq_true rfl) (Nat.le_of_ble_eq_true rfl) (rfl) d_Tok_withEquals_139
    · simp only [List.mem_cons, List.not_mem_nil, or_false] at c2
      refine lv_sipush (v := 130) S.x S.b d_Tok_withEquals_124 (by decide) ?_
      exact px_iret (v := 130) S hr rfl hlk hAe hw (Nat.le_of_ble_eq_true rfl) (Nat.le_of_ble_eq_true rfl) (rfl) d_Tok_withEquals_127
