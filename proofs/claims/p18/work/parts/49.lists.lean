theorem oz_1f8ffc21b4 {a0 a1 a2 a3 : Int} (h0 : a1 ≤ a3) (h1 : a2 = a0 + a3) : a0 + a1 ≤ a2 := by omega
theorem oz_fe6a99f05c {a1 : Int} {n0 : Nat} (h0 : (n0 : Int) = a1) : ((0 + n0) : Int) = a1 := by omega
theorem oz_e388ee030b {n0 : Nat} (h0 : n0 = 1) : (0 + n0) ≤ 1 := by omega
theorem oz_bb9c11fbd5 {n0 : Nat} (h0 : n0 = 1) : (0 + n0) = 1 := by omega
theorem oz_ee1f943402 {a0 : Int} (h0 : (0 : Int) < a0) : 0 ≤ a0 := by omega
theorem oz_abee21d448 {a0 : Int} {n1 : Nat} (h0 : a0 = (n1 : Int)) (h1 : n1 ≤ 1000000) : a0 ≤ 1000000 := by omega
theorem oz_02730ae20c {a0 a1 a2 : Int} {n3 : Nat} (h0 : a0 = a1 - a2) (h1 : a1 = (n3 : Int) + 1) (h2 : a2 = (n3 : Int)) : 1 ≤ a0 := by omega
theorem oz_6dfb27f070 {a0 a1 a2 : Int} {n3 : Nat} (h0 : a0 = a1 - a2) (h1 : a1 = (n3 : Int) + 1) (h2 : a2 = (n3 : Int)) : a0 ≤ 1000000 := by omega
theorem oz_1c0428a576 {n0 : Nat}  : 0 + 0 ≤ (4 * n0 + 40) := by omega
theorem oz_56beb846e0 {a1 a2 a3 a4 : Int} {n0 : Nat} (h0 : a2 = (n0 : Int) + 1) (h1 : a3 + a4 ≤ a1) (h2 : a4 = a2 - a3) : (n0 : Int) ≤ a1 := by omega
theorem oz_1e4b51dcb4 {a3 a4 a5 a6 : Int} {n0 n1 n2 : Nat} (h0 : a3 = (n2 : Int) + 1) (h1 : (n1 : Int) = a4) (h2 : n0 = 1) (h3 : a5 = a3 - a6) (h4 : a6 + a5 ≤ a4) : ((0 + n0) : Int) ≤ (n1 : Int) - (n2 : Int) := by omega
theorem oz_9e013e70f5 {a0 a1 : Int} (h0 : a1 ≤ a0) (h1 : a1 = 1) : 0 ≤ a0 := by omega
theorem oz_a6f86461ad {n0 : Nat}  : ((0 + n0) : Int) ≤ 4 * (((n0) : Int) - (0 : Int)) := by omega
theorem oz_c6a1f2bc4b {a0 a2 : Int} {n1 : Nat} (h0 : a2 = (n1 : Int)) (h1 : a0 = a2 + (1 : Int)) : a0 = (n1 : Int) + 1 := by omega
theorem oz_fb25b3e9fe {n0 : Nat}  : 0 + (4 * n0 + 40) ≤ (4 * n0 + 40) := by omega
theorem oz_0ee4199d15 {n0 : Nat} (h0 : n0 ≤ 1) : (0 + n0) ≤ 1 := by omega
theorem oz_d3e3da878d {n0 n1 n2 : Nat} (h0 : (n2 : Int) ≤ 2 * (n1 : Int) + 10) (h1 : (n0 : Int) ≤ 4 * ((n2 : Int) - (n1 : Int))) : (0 + n0) ≤ (4 * n1 + 40) := by omega
theorem oz_ddf3b86544 {n0 n1 n2 : Nat} (h0 : (n2 : Int) + 1 ≤ (n1 : Int)) (h1 : n0 ≤ 1) : ((0 + n0) : Int) ≤ (n1 : Int) - (n2 : Int) := by omega
theorem oz_de7e83e532 {n0 n1 n2 : Nat} (h0 : (n0 : Int) ≤ 4 * ((n1 : Int) - (n2 : Int))) : ((0 + n0) : Int) ≤ 4 * ((n1 : Int) - (n2 : Int)) := by omega
theorem oz_763e4f86fc {a0 a1 : Int} (h0 : a0 = a1 + (1 : Int)) (h1 : a1 = 0) : a0 = 1 := by omega
theorem oz_763d747839 {n0 n1 : Nat} (h0 : (n0 : Int) ≤ 4 * ((n1 : Int) - (0 : Int))) (h1 : (n1 : Int) ≤ 2 * (0 : Int) + 10) : (0 + n0) ≤ (40) := by omega
theorem oz_df7b49c329 {n0 n1 : Nat} (h0 : 10 ≤ n1) (h1 : n0 ≤ 1) : ((0 + n0) : Int) ≤ (n1 : Int) - (0 : Int) := by omega
theorem oz_1506aa982e {n0 n1 : Nat} (h0 : (n0 : Int) ≤ 4 * ((n1 : Int) - (0 : Int))) : ((0 + n0) : Int) ≤ 4 * ((n1 : Int) - (0 : Int)) := by omega
theorem oz_1ae9abb52d {n0 : Nat}  : 0 ≤ (4 * n0 + 40) := by omega
theorem oz_125ffe3242 {n0 : Nat}  : (0 : Int) ≤ (n0 : Int) - (n0 : Int) := by omega
theorem oz_4927565985 {n0 : Nat}  : (0 : Int) ≤ 4 * ((n0 : Int) - (n0 : Int)) := by omega
theorem oz_5ff40b9674 {a0 a2 a3 : Int} {n1 : Nat} (h0 : a0 ≤ (n1 : Int)) (h1 : a2 = a0) (h2 : a3 = (n1 : Int)) (h3 : a2 = a3) : a0 = (n1 : Int) := by omega
theorem oz_11ae369335 {n0 n1 n2 : Nat} (h0 : (n0 : Int) ≤ (n1 : Int) - (n2 : Int)) : ((0 + n0) : Int) ≤ (n1 : Int) - (n2 : Int) := by omega
theorem m2_25 : Cond.methodLink "jdk/internal/util/ArraysSupport" 194 ⟨"java/lang/Math", "max", "(II)I"⟩ ∈ AL := AL_2 (List.mem_of_getElem? (i := 25) rfl) rfl
theorem m2_28 : Cond.constant "jdk/internal/util/ArraysSupport" 200 (2147483639) ∈ AL := AL_2 (List.mem_of_getElem? (i := 28) rfl) rfl
theorem m2_64 : Cond.classLink "java/util/Arrays" 110 "[Ljava/lang/Object;" ∈ AL := AL_2 (List.mem_of_getElem? (i := 64) rfl) rfl
theorem m2_66 : Cond.classLink "java/util/Arrays" 2 "java/lang/Object" ∈ AL := AL_2 (List.mem_of_getElem? (i := 66) rfl) rfl
theorem m2_67 : Cond.methodLink "java/util/Arrays" 304 ⟨"java/lang/Math", "min", "(II)I"⟩ ∈ AL := AL_2 (List.mem_of_getElem? (i := 67) rfl) rfl
theorem m2_70 : Cond.methodLink "java/util/Arrays" 150 ⟨"java/lang/System", "arraycopy", "(Ljava/lang/Object;ILjava/lang/Object;II)V"⟩ ∈ AL := AL_2 (List.mem_of_getElem? (i := 70) rfl) rfl
theorem m2_72 : Cond.native ⟨"java/lang/System", "arraycopy", "(Ljava/lang/Object;ILjava/lang/Object;II)V"⟩ ∈ AL := AL_2 (List.mem_of_getElem? (i := 72) rfl) rfl
theorem m2_71 : Cond.static ⟨"java/lang/System", "arraycopy", "(Ljava/lang/Object;ILjava/lang/Object;II)V"⟩ ∈ AL := AL_2 (List.mem_of_getElem? (i := 71) rfl) rfl
theorem m1_15 : Cond.initialized "java/lang/System" ∈ AL := AL_1 (List.mem_of_getElem? (i := 15) rfl) rfl
theorem m14_239n : Cond.castable "HomeSystem$Symbol" "java/lang/Object" ∈ tables_1 := by unfold tables_1; exact List.mem_append_right _ (List.mem_append_right _ (List.mem_append_right _ (List.mem_append_right _ (List.mem_append_right _ (List.mem_append_right _ (List.mem_append_right _ (List.mem_append_right _ (List.mem_append_right _ (List.mem_append_right _ (List.mem_append_right _ (List.mem_append_right _ (List.mem_append_right _ (List.mem_append_left _ (List.mem_of_getElem? (i := 239) rfl))))))))))))))
theorem m2_35 : Cond.methodLink "java/util/Arrays" 86 ⟨"java/lang/Object", "getClass", "()Ljava/lang/Class;"⟩ ∈ AL := AL_2 (List.mem_of_getElem? (i := 35) rfl) rfl
theorem m14_235n : Cond.declares ⟨"java/lang/Object", "getClass", "()Ljava/lang/Class;"⟩ ∈ tables_1 := by unfold tables_1; exact List.mem_append_right _ (List.mem_append_right _ (List.mem_append_right _ (List.mem_append_right _ (List.mem_append_right _ (List.mem_append_right _ (List.mem_append_right _ (List.mem_append_right _ (List.mem_append_right _ (List.mem_append_right _ (List.mem_append_right _ (List.mem_append_right _ (List.mem_append_right _ (List.mem_append_left _ (List.mem_of_getElem? (i := 235) rfl))))))))))))))
theorem m14_234 : Cond.selects "[Ljava/lang/Object;" ⟨"java/lang/Object", "getClass", "()Ljava/lang/Class;"⟩ ⟨"java/lang/Object", "getClass", "()Ljava/lang/Class;"⟩ ∈ AL := AL_14 (List.mem_of_getElem? (i := 234) rfl) rfl
theorem m2_36 : Cond.instanceMethod ⟨"java/lang/Object", "getClass", "()Ljava/lang/Class;"⟩ ∈ AL := AL_2 (List.mem_of_getElem? (i := 36) rfl) rfl
theorem m2_60 : Cond.native ⟨"java/lang/Object", "getClass", "()Ljava/lang/Class;"⟩ ∈ AL := AL_2 (List.mem_of_getElem? (i := 60) rfl) rfl
theorem m2_61 : Cond.methodLink "java/util/Arrays" 300 ⟨"java/util/Arrays", "copyOf", "([Ljava/lang/Object;ILjava/lang/Class;)[Ljava/lang/Object;"⟩ ∈ AL := AL_2 (List.mem_of_getElem? (i := 61) rfl) rfl
theorem m2_63 : Cond.code ⟨"java/util/Arrays", "copyOf", "([Ljava/lang/Object;ILjava/lang/Class;)[Ljava/lang/Object;"⟩ prog_40_method_120_code 4 (Option.some (FieldType.array (FieldType.object "java/lang/Object"))) ∈ AL := AL_2 (List.mem_of_getElem? (i := 63) rfl) rfl
theorem m2_62 : Cond.static ⟨"java/util/Arrays", "copyOf", "([Ljava/lang/Object;ILjava/lang/Class;)[Ljava/lang/Object;"⟩ ∈ AL := AL_2 (List.mem_of_getElem? (i := 62) rfl) rfl
theorem m2_22 : Cond.methodLink "java/util/ArrayList" 73 ⟨"jdk/internal/util/ArraysSupport", "newLength", "(III)I"⟩ ∈ AL := AL_2 (List.mem_of_getElem? (i := 22) rfl) rfl
theorem m2_24 : Cond.code ⟨"jdk/internal/util/ArraysSupport", "newLength", "(III)I"⟩ prog_46_method_27_code 4 (Option.some FieldType.int) ∈ AL := AL_2 (List.mem_of_getElem? (i := 24) rfl) rfl
theorem m1_12 : Cond.initialized "jdk/internal/util/ArraysSupport" ∈ AL := AL_1 (List.mem_of_getElem? (i := 12) rfl) rfl
theorem m2_23 : Cond.static ⟨"jdk/internal/util/ArraysSupport", "newLength", "(III)I"⟩ ∈ AL := AL_2 (List.mem_of_getElem? (i := 23) rfl) rfl
theorem m2_32 : Cond.methodLink "java/util/ArrayList" 66 ⟨"java/util/Arrays", "copyOf", "([Ljava/lang/Object;I)[Ljava/lang/Object;"⟩ ∈ AL := AL_2 (List.mem_of_getElem? (i := 32) rfl) rfl
theorem m2_34 : Cond.code ⟨"java/util/Arrays", "copyOf", "([Ljava/lang/Object;I)[Ljava/lang/Object;"⟩ prog_40_method_119_code 2 (Option.some (FieldType.array (FieldType.object "java/lang/Object"))) ∈ AL := AL_2 (List.mem_of_getElem? (i := 34) rfl) rfl
theorem m2_33 : Cond.static ⟨"java/util/Arrays", "copyOf", "([Ljava/lang/Object;I)[Ljava/lang/Object;"⟩ ∈ AL := AL_2 (List.mem_of_getElem? (i := 33) rfl) rfl
theorem m1_186 : Cond.fieldLink "java/util/ArrayList" 39 "java/util/ArrayList" "DEFAULTCAPACITY_EMPTY_ELEMENTDATA" "[Ljava/lang/Object;" ∈ AL := AL_1 (List.mem_of_getElem? (i := 186) rfl) rfl
theorem m2_73 : Cond.methodLink "java/util/ArrayList" 79 ⟨"java/lang/Math", "max", "(II)I"⟩ ∈ AL := AL_2 (List.mem_of_getElem? (i := 73) rfl) rfl
theorem m2_74 : Cond.classLink "java/util/ArrayList" 7 "java/lang/Object" ∈ AL := AL_2 (List.mem_of_getElem? (i := 74) rfl) rfl
theorem m2_18 : Cond.methodLink "java/util/ArrayList" 69 ⟨"java/util/ArrayList", "grow", "(I)[Ljava/lang/Object;"⟩ ∈ AL := AL_2 (List.mem_of_getElem? (i := 18) rfl) rfl
theorem m2_21 : Cond.code ⟨"java/util/ArrayList", "grow", "(I)[Ljava/lang/Object;"⟩ prog_39_method_6_code 4 (Option.some (FieldType.array (FieldType.object "java/lang/Object"))) ∈ AL := AL_2 (List.mem_of_getElem? (i := 21) rfl) rfl
theorem ms_1_2 : Cond.selects "java/util/ArrayList" ⟨"java/util/ArrayList", "grow", "(I)[Ljava/lang/Object;"⟩ ⟨"java/util/ArrayList", "grow", "(I)[Ljava/lang/Object;"⟩ ∈ AL := AL_p (q := (⟨"java/util/ArrayList", "grow", "(I)[Ljava/lang/Object;"⟩, 3)) (by unfold lw_privs; exact List.mem_append_left _ (List.mem_of_getElem? (i := 2) rfl))
theorem m2_20 : Cond.instanceMethod ⟨"java/util/ArrayList", "grow", "(I)[Ljava/lang/Object;"⟩ ∈ AL := AL_2 (List.mem_of_getElem? (i := 20) rfl) rfl
theorem m2_14 : Cond.methodLink "java/util/ArrayList" 129 ⟨"java/util/ArrayList", "grow", "()[Ljava/lang/Object;"⟩ ∈ AL := AL_2 (List.mem_of_getElem? (i := 14) rfl) rfl
theorem m2_17 : Cond.code ⟨"java/util/ArrayList", "grow", "()[Ljava/lang/Object;"⟩ prog_39_method_7_code 1 (Option.some (FieldType.array (FieldType.object "java/lang/Object"))) ∈ AL := AL_2 (List.mem_of_getElem? (i := 17) rfl) rfl
theorem ms_1_1 : Cond.selects "java/util/ArrayList" ⟨"java/util/ArrayList", "grow", "()[Ljava/lang/Object;"⟩ ⟨"java/util/ArrayList", "grow", "()[Ljava/lang/Object;"⟩ ∈ AL := AL_p (q := (⟨"java/util/ArrayList", "grow", "()[Ljava/lang/Object;"⟩, 3)) (by unfold lw_privs; exact List.mem_append_left _ (List.mem_of_getElem? (i := 1) rfl))
theorem m2_16 : Cond.instanceMethod ⟨"java/util/ArrayList", "grow", "()[Ljava/lang/Object;"⟩ ∈ AL := AL_2 (List.mem_of_getElem? (i := 16) rfl) rfl
theorem m2_10 : Cond.methodLink "java/util/ArrayList" 131 ⟨"java/util/ArrayList", "add", "(Ljava/lang/Object;[Ljava/lang/Object;I)V"⟩ ∈ AL := AL_2 (List.mem_of_getElem? (i := 10) rfl) rfl
theorem m2_13 : Cond.code ⟨"java/util/ArrayList", "add", "(Ljava/lang/Object;[Ljava/lang/Object;I)V"⟩ prog_39_method_24_code 4 (Option.none : Option Jvm.ClassFile.FieldType) ∈ AL := AL_2 (List.mem_of_getElem? (i := 13) rfl) rfl
theorem ms_1_0 : Cond.selects "java/util/ArrayList" ⟨"java/util/ArrayList", "add", "(Ljava/lang/Object;[Ljava/lang/Object;I)V"⟩ ⟨"java/util/ArrayList", "add", "(Ljava/lang/Object;[Ljava/lang/Object;I)V"⟩ ∈ AL := AL_p (q := (⟨"java/util/ArrayList", "add", "(Ljava/lang/Object;[Ljava/lang/Object;I)V"⟩, 3)) (by unfold lw_privs; exact List.mem_append_left _ (List.mem_of_getElem? (i := 0) rfl))
theorem m2_12 : Cond.instanceMethod ⟨"java/util/ArrayList", "add", "(Ljava/lang/Object;[Ljava/lang/Object;I)V"⟩ ∈ AL := AL_2 (List.mem_of_getElem? (i := 12) rfl) rfl
/-! LISTS THAT GROW: what lies outside (the empty array that all new lists share, the class of arrays of objects), and rows for it -/
def oE (A : Nat → Prop) (em : Nat) (U : State) (H : Heap) : Prop := va_Z "java/util/ArrayList" "DEFAULTCAPACITY_EMPTY_ELEMENTDATA" "[Ljava/lang/Object;" (.ref em) A U H ∧ va_T (.object "java/lang/Object") em 0 (fun _ => .null) A U H
theorem oG_E {em : Nat} : oG (fun A U H => oE A em U H) := oG_of (fun h x => ⟨va_Z.moved h x.1, va_T.moved h x.2⟩) (fun x h => ⟨va_Z.kept x.1 h, va_T.kept x.2 h⟩) (fun x h => ⟨va_Z.narrow x.1 h, va_T.narrow x.2 h⟩)
theorem oG_M {mi : Nat} : oG (fun _ U _ => va_Mi "[Ljava/lang/Object;" mi U) := oG_of (fun h x => va_Mi.moved h x) (fun x _ => x) (fun x _ => x)
/-- the first n are the same -/
def Cpy (n : Nat) (f g : Nat → Option Nat) : Prop := ∀ j : Nat, j < n → g j = f j
theorem cpy_mk {f g : Nat → Option Nat} {n m : Nat} (h : n ≤ m) : Cpy n f (va_cpy f g 0 0 m) := fun j hj => by
  unfold va_cpy
  rw [if_pos ⟨Nat.zero_le _, by omega⟩, Nat.sub_zero, Nat.zero_add]
theorem cpy_rf {f : Nat → Option Nat} {n : Nat} : Cpy n f f := fun _ _ => rfl
theorem cpy_0 {f g : Nat → Option Nat} : Cpy 0 f g := fun _ h => absurd h (Nat.not_lt_zero _)
/-- one more at the end -/
def AddL (n : Int32) (g g' : Nat → Option Nat) (a : Nat) : Prop := (∀ j : Nat, (j : Int) < n.toInt → g' j = g j) ∧ ∀ j : Nat, (j : Int) = n.toInt → g' j = some a
theorem addl_mk {m : Nat} {g g1 : Nat → Option Nat} (h : Cpy m g g1) {n x : Int32} {a : Nat} (h0 : 0 ≤ n.toInt) (hm : n.toInt ≤ (m : Int)) (hx : x.toInt = n.toInt) : AddL n g (va_up g1 x.toNatClampNeg (some a)) a := by
  have hc := cl_nat (x := x) (by first | exact oz_f3ebed1ad0 hx h0 | omega)
  refine ⟨fun j hj => ?_, fun j hj => ?_⟩
  · rw [va_up_n (by omega)]
    exact h j (by omega)
  · have e : j = x.toNatClampNeg := by omega
    rw [e, va_up_s]
theorem AddL.els {n n' : Int32} {g g' : Nat → Option Nat} {a : Nat} {P : va_W} (h : AddL n g g' a) (k : ElS P n g) (hs : Sy P (some a)) (hn : n'.toInt = n.toInt + 1) : ElS P n' g' := fun j hj => by
  by_cases hjn : (j : Int) < n.toInt
  · obtain ⟨b, e, hb⟩ := k j hjn
    exact ⟨b, (h.1 j hjn).trans e, hb⟩
  · exact ⟨a, h.2 j (by omega), hs⟩
theorem AddL.elf {n n' : Int32} {g g' : Nat → Option Nat} {a : Nat} {P : va_W} (h : AddL n g g' a) (k : ElF P n g) (hs : Fy P (some a)) (hn : n'.toInt = n.toInt + 1) : ElF P n' g' := fun j hj => by
  by_cases hjn : (j : Int) < n.toInt
  · obtain ⟨b, e, hb⟩ := k j hjn
    exact ⟨b, (h.1 j hjn).trans e, hb⟩
  · exact ⟨a, h.2 j (by omega), hs⟩
theorem ElF.els {P : va_W} {n : Int32} {g : Nat → Option Nat} (h : ElF P n g) : ElS P n g := fun j hj => by
  obtain ⟨a, e, ha⟩ := h j hj
  exact ⟨a, e, ha.sy⟩
/-- how long the array of a list can be, behind one more -/
def Lcap (lc : Nat) (n : Int32) (lc' : Nat) : Prop := lc' = lc ∨ (lc' : Int) ≤ 2 * n.toInt + 10
theorem Lcap.le {lc lc' : Nat} {n : Int32} {B : Int} (h : Lcap lc n lc') (h1 : (lc : Int) ≤ B) (h2 : 2 * n.toInt + 10 ≤ B) : (lc' : Int) ≤ B := by
  rcases h with h | h <;> omega
section PO
variable {p : Program} {l : Launch} {e : Env} {R : Room} {s : State} {m : MethodId} {args : Array Value} {below : List Frame} {meth : Method} {c : Code} {H : Heap} {locs : List Loc} {cells slots : Nat} {Q : State → Prop}
variable {cc : ByteArray} {pc nL : Nat} {ls : Array Slot} {rest : List Value} {D : va_G} {A : Nat → Prop} {a : Nat} {cs : Nat → ClassId} {ps ps' : List va_W} {w w' : va_W} {H0 : Heap} {own : String}
theorem px_arrq (hT : Tb D cs s) (hw : pw D A H0 H locs ps) (i j : Nat) {n : Nat} {f : Nat → Option Nat} (hi : ps[i]? = some w) (he : w[j]? = some (a, .inl (cs 12, n, .inr (.inr (.inr (.inr f)))))) : ∃ cell : Cell, H[a]? = some cell ∧ cell.vm.isStatics = false ∧ s.vm.findClass "[Ljava/lang/Object;" = some cell.cls :=
  ⟨_, hw.1 _ _ (pp_get he ps i hi), rfl, va_nmO (hT.1.2 12 (cs 12, .object "java/lang/Object") rfl).2 (by decide)⟩
theorem px_astO (S : px_S p m c cc nL s args own) (hT : Tb D cs s) (hw : pw D A H0 H locs ps) (i j t0 i2 j2 : Nat) {w2 : va_W} {ci : Nat} {r : vw_C} {vs : List Value} {v : Nat} {cA : ClassId} {n : Nat} {f : Nat → Option Nat} {E : String} (hi : ps[i]? = some w) (he : w[j]? = some (a, .inl (cA, n, .inr (.inr (.inr (.inr f)))))) (ht : (tyL cs)[t0]? = some (cA, .object E)) (hca : Cond.castable r.1 E ∈ tables_1) (hi2 : ps[i2]? = some w2) (he2 : w2[j2]? = some (v, .inr (ci, vs))) (hc : classes[ci]? = some r) {x : Int32} (hin : vp_in x n) (hdg : decode cc pc = .ok (.aastore, 1)) (hww : w.set j (a, .inl (cA, n, .inr (.inr (.inr (.inr (va_up f x.toNatClampNeg (some v))))))) = w') (hps : ps.set i w' = ps')
    (kk : ∀ (H1 : Heap) (locs1 : List Loc), pw D A H0 H1 locs1 ps' → W p l e R s m args below meth c H1 locs1 cells slots Q (F0 m (pc + 1) ls rest)) : W p l e R s m args below meth c H locs cells slots Q (F0 m pc ls (.ref v :: .int x :: .ref a :: rest)) := by
  have hj : j < w.length := (List.getElem?_eq_some_iff.mp he).1
  refine va_astqO S.x S.b hT.1 hw.1 hw.2.1 hw.2.2 (pp_off ps i + j) t0 (pp_off ps i2 + j2) ci (pp_get he ps i hi) ht (hT.2.2 _ hca rfl) (pp_get he2 ps i2 hi2) hc hin hdg (fun H1 locs1 h1 h2 h3 => kk H1 locs1 ⟨?_, ?_, h3⟩)
  · rw [← hps, ← hww, ← pp_set hj ps i hi]; exact h1
  · rw [← hps, ← hww, ← pp_set hj ps i hi]; exact h2
theorem px_copyO (S : px_S p m c cc nL s args own) (hT : Tb D cs s) (hw : pw D A H0 H locs ps) (i0 j0 i1 j1 iP : Nat) {w0 P : va_W} {a0 n0 n1 : Nat} {f g : Nat → Option Nat} (hi0 : ps[i0]? = some w0) (he0 : w0[j0]? = some (a0, .inl (cs 12, n0, .inr (.inr (.inr (.inr f)))))) (hi : ps[i1]? = some w) (he : w[j1]? = some (a, .inl (cs 12, n1, .inr (.inr (.inr (.inr g)))))) (hP : ps[iP]? = some P) {n : Int32} (h3 : 0 ≤ n.toInt) (h4 : n.toInt ≤ (n0 : Int)) (h5 : n.toInt ≤ (n1 : Int)) (hel : ∀ j : Nat, (j : Int) < n.toInt → ∃ b, f j = some b ∧ Sy P (some b))
    {index : Nat} (hlink : Cond.methodLink own index arraycopyName ∈ AL) (hnat : Cond.native arraycopyName ∈ AL) (hstat : Cond.static arraycopyName ∈ AL) (hini : Cond.initialized "java/lang/System" ∈ AL) (hca : Cond.castable "HomeSystem$Symbol" "java/lang/Object" ∈ tables_1) (hls : ls.size = nL) (hframes : 1 ≤ R.frames) (hlocals : (rest.map fun v => v.category).sum + 40 ≤ R.locals) (hdg : decode cc pc = .ok (.invokestatic index, 3))
    (hww : w.set j1 (a, .inl (cs 12, n1, .inr (.inr (.inr (.inr (va_cpy f g 0 0 n.toNatClampNeg)))))) = w') (hps : ps.set i1 w' = ps')
    (kk : ∀ (H1 : Heap) (locs1 : List Loc), pw D A H0 H1 locs1 ps' → W p l e R s m args below meth c H1 locs1 cells slots Q (F0 m (pc + 3) ls rest)) : W p l e R s m args below meth c H locs cells slots Q (F0 m pc ls (.int n :: .int 0 :: .ref a :: .int 0 :: .ref a0 :: rest)) := by
  have hj : j1 < w.length := (List.getElem?_eq_some_iff.mp he).1
  have hc := cl_nat (x := n) h3
  have hz : (0 : Int32).toNatClampNeg = 0 := rfl
  have hnn : ¬ n < 0 := fun q => by
    have q1 := Int32.lt_iff_toInt_lt.mp q
    have q2 : (0 : Int32).toInt = 0 := rfl
    omega
  have hnw : nativeFrameWords "java/lang/System" "arraycopy" 5 + 11 ≤ 40 := by decide
  refine va_copyq (C := "HomeSystem$Symbol") (n0 := n0) (n1 := n1) (f := f) (g := g) (sp := 0) (dp := 0) (n := n) S.x S.b (by rw [S.ml]; exact hls.symm) S.own (S.w hlink) (S.w hnat) (S.w hstat) (S.w hini) hT.1 hw.1 hw.2.1 hw.2.2 (pp_off ps i0 + j0) (pp_off ps i1 + j1) 12 12 (pp_get he0 ps i0 hi0) (pp_get he ps i1 hi) rfl rfl (by decide) (by decide) hnn (by rw [hz]; omega) (by rw [hz]; omega) ?_ ?_ hframes (by omega) hdg (fun H1 locs1 h1 h2 h3 => kk H1 locs1 ⟨?_, ?_, h3⟩)
  · intro i hi' y hy
    rw [hz, Nat.zero_add] at hy
    obtain ⟨b, e1, hb⟩ := hel i (by omega)
    rw [e1] at hy
    cases hy
    obtain ⟨j, sj, hj'⟩ := hb.at
    exact px_recv hT hw iP j hP hj' rfl
  · intro comp c0 k1 k2
    obtain ⟨c1, t1, f1, f2, f3⟩ := Cond.castable_spec (va_Nw.use (A := args) rfl (hT.2.2 _ hca rfl))
    cases k2.symm.trans f1
    cases k1.symm.trans f2
    exact f3
  · rw [← hps, ← hww, ← pp_set hj ps i1 hi]; exact h1
  · rw [← hps, ← hww, ← pp_set hj ps i1 hi]; exact h2
end PO
abbrev b_ArraysSupport_newLength : ByteArray := prog_46_method_27_code
def y_ArraysSupport_newLength : MethodName := ⟨"jdk/internal/util/ArraysSupport", "newLength", "(III)I"⟩
theorem d_ArraysSupport_newLength_0 : decode b_ArraysSupport_newLength 0 = .ok (.iload_n 0, 1) := by decide +kernel
theorem d_ArraysSupport_newLength_1 : decode b_ArraysSupport_newLength 1 = .ok (.iload_n 1, 1) := by decide +kernel
theorem d_ArraysSupport_newLength_2 : decode b_ArraysSupport_newLength 2 = .ok (.iload_n 2, 1) := by decide +kernel
theorem d_ArraysSupport_newLength_3 : decode b_ArraysSupport_newLength 3 = .ok (.invokestatic 194, 3) := by decide +kernel
theorem d_ArraysSupport_newLength_6 : decode b_ArraysSupport_newLength 6 = .ok (.iadd, 1) := by decide +kernel
theorem d_ArraysSupport_newLength_7 : decode b_ArraysSupport_newLength 7 = .ok (.istore_n 3, 1) := by decide +kernel
theorem d_ArraysSupport_newLength_8 : decode b_ArraysSupport_newLength 8 = .ok (.iconst 0, 1) := by decide +kernel
theorem d_ArraysSupport_newLength_9 : decode b_ArraysSupport_newLength 9 = .ok (.iload_n 3, 1) := by decide +kernel
theorem d_ArraysSupport_newLength_10 : decode b_ArraysSupport_newLength 10 = .ok (.if_icmp .ge 11, 3) := by decide +kernel
theorem d_ArraysSupport_newLength_13 : decode b_ArraysSupport_newLength 13 = .ok (.iload_n 3, 1) := by decide +kernel
theorem d_ArraysSupport_newLength_14 : decode b_ArraysSupport_newLength 14 = .ok (.ldc 200, 2) := by decide +kernel
theorem d_ArraysSupport_newLength_16 : decode b_ArraysSupport_newLength 16 = .ok (.if_icmp .gt 5, 3) := by decide +kernel
theorem d_ArraysSupport_newLength_19 : decode b_ArraysSupport_newLength 19 = .ok (.iload_n 3, 1) := by decide +kernel
theorem d_ArraysSupport_newLength_20 : decode b_ArraysSupport_newLength 20 = .ok (.ireturn, 1) := by decide +kernel
theorem d_ArraysSupport_newLength_21 : decode b_ArraysSupport_newLength 21 = .ok (.iload_n 0, 1) := by decide +kernel
theorem d_ArraysSupport_newLength_22 : decode b_ArraysSupport_newLength 22 = .ok (.iload_n 1, 1) := by decide +kernel
theorem q_ArraysSupport_newLength : px_y y_ArraysSupport_newLength 3 := by unfold px_y; decide +kernel
set_option maxHeartbeats 4000000 in
set_option maxRecDepth 100000 in
theorem c_al_newLength (l : Launch) (D : va_G) (cs : Nat → ClassId)  (p0 p1 p2 : Int32)  (g0 : 0 ≤ p0.toInt) (g1 : p0.toInt ≤ 1000000) (g2 : 1 ≤ p1.toInt) (g3 : p1.toInt ≤ 1000000) (g4 : 0 ≤ p2.toInt) (g5 : p2.toInt ≤ 1000000) : MetI l y_ArraysSupport_newLength b_ArraysSupport_newLength 4 (.int) D cs 1 40 (0) (0) [.int p0, .int p1, .int p2] [] (fun _ => True) (fun v ps => (ps = []) ∧ (p0.toInt + p1.toInt ≤ v.toInt) ∧ (p0.toInt + p2.toInt ≤ v.toInt) ∧ (v.toInt = p0.toInt + p1.toInt ∨ v.toInt = p0.toInt + p2.toInt)) := by
  refine px_enter (by decide) (Nat.le_of_ble_eq_true rfl) ?_
  intro p e s m below meth c A ls hAe S hr hlk hnm hA hT hX hw hl
  replace hl : lv_has ls 4 [(0, .int p0), (1, .int p1), (2, .int p2)] := hl
  have lp0 := Int32.le_toInt p0
  have up0 := Int32.toInt_lt p0
  have lp1 := Int32.le_toInt p1
  have up1 := Int32.toInt_lt p1
  have lp2 := Int32.le_toInt p2
  have up2 := Int32.toInt_lt p2
  have cst0 : (0 : Int32).toInt = 0 := rfl
  refine lv_iload_n S.x S.b d_ArraysSupport_newLength_0 rfl (lv_at hl 0 rfl) ?_
  refine lv_iload_n S.x S.b d_ArraysSupport_newLength_1 rfl (lv_at hl 1 rfl) ?_
  refine lv_iload_n S.x S.b d_ArraysSupport_newLength_2 rfl (lv_at hl 2 rfl) ?_
  refine va_mmax S.x S.b (by rw [S.ml]; exact hl.1.symm) S.own (S.w m2_25) (S.w m2_26) (S.w m1_13) (S.w m2_27) (Nat.le_of_ble_eq_true rfl) (Nat.le_of_ble_eq_true rfl) (Nat.zero_le _) (Nat.zero_le _) d_ArraysSupport_newLength_3 ?_
  refine lv_topi (fun z1 ez1 => ?_)
  have tz1 := i_max p1 p2 ez1
  have lz1 := Int32.le_toInt z1
  have uz1 := Int32.toInt_lt z1
  refine lv_iadd S.x S.b d_ArraysSupport_newLength_6 ?_
  refine lv_topi (fun z2 ez2 => ?_)
  have tz2 : z2.toInt = (p0.toInt + z1.toInt + 2147483648) % 4294967296 - 2147483648 := by rw [ez2]; exact i_add p0 z1
  have lz2 := Int32.le_toInt z2
  have uz2 := Int32.toInt_lt z2
  try replace tz2 : z2.toInt = p0.toInt + z1.toInt := by omega
  refine lv_istore_n (lv' := [(3, .int z2), (0, .int p0), (1, .int p1), (2, .int p2)]) S.x S.b d_ArraysSupport_newLength_7 rfl hl (by decide) rfl (fun ls hl => ?_)
  refine lv_iconst (v := 0) S.x S.b d_ArraysSupport_newLength_8 (by decide) ?_
  refine lv_iload_n S.x S.b d_ArraysSupport_newLength_9 rfl (lv_at hl 0 rfl) ?_
  refine lv_icmp_ge (tgt := 21) S.x S.b d_ArraysSupport_newLength_10 (by decide) (fun c3 => ?_) (fun c3 => ?_)
  · have nc3 : z2.toInt ≤ (0 : Int) := (i_le (x := z2) (y := 0)).mp c3
    refine lv_iload_n S.x S.b d_ArraysSupport_newLength_21 rfl (lv_at hl 1 rfl) ?_
    refine lv_iload_n S.x S.b d_ArraysSupport_newLength_22 rfl (lv_at hl 2 rfl) ?_
    exfalso
    omega
  · have nc3 : ¬ z2.toInt ≤ (0 : Int) := mt (i_le (x := z2) (y := 0)).mpr c3
    refine lv_iload_n S.x S.b d_ArraysSupport_newLength_13 rfl (lv_at hl 0 rfl) ?_
    refine lv_ldc (v := 2147483639) S.x S.b S.own (S.w m2_28) d_ArraysSupport_newLength_14 ?_
    have cs_14 : (2147483639 : Int32).toInt = 2147483639 := rfl
    refine lv_icmp_gt (tgt := 21) S.x S.b d_ArraysSupport_newLength_16 (by decide) (fun c4 => ?_) (fun c4 => ?_)
    · have nc4 : (2147483639 : Int) < z2.toInt := (i_lt (x := 2147483639) (y := z2)).mp c4
      refine lv_iload_n S.x S.b d_ArraysSupport_newLength_21 rfl (lv_at hl 1 rfl) ?_
      refine lv_iload_n S.x S.b d_ArraysSupport_newLength_22 rfl (lv_at hl 2 rfl) ?_
      exfalso
      omega
    · have nc4 : ¬ (2147483639 : Int) < z2.toInt := mt (i_lt (x := 2147483639) (y := z2)).mpr c4
      refine lv_iload_n S.x S.b d_ArraysSupport_newLength_19 rfl (lv_at hl 0 rfl) ?_
      exact px_iret (v := z2) S hr rfl hlk hAe hw (Nat.le_of_ble_eq_true rfl) (Nat.le_of_ble_eq_true rfl) (⟨rfl, (show p0.toInt + p1.toInt ≤ z2.toInt from by first | exact oz_1f8ffc21b4 tz1.1 tz2 | omega), (show p0.toInt + p2.toInt ≤ z2.toInt from by first | exact oz_1f8ffc21b4 tz1.2.1 tz2 | omega), (show z2.toInt = p0.toInt + p1.toInt ∨ z2.toInt = p0.toInt + p2.toInt from by first | with_reducible rfl | with_reducible assumption | omega)⟩) d_ArraysSupport_newLength_20
abbrev b_Arrays_copyOf : ByteArray := prog_40_method_120_code
def y_Arrays_copyOf : MethodName := ⟨"java/util/Arrays", "copyOf", "([Ljava/lang/Object;ILjava/lang/Class;)[Ljava/lang/Object;"⟩
theorem d_Arrays_copyOf_0 : decode b_Arrays_copyOf 0 = .ok (.aload_n 2, 1) := by decide +kernel
theorem d_Arrays_copyOf_1 : decode b_Arrays_copyOf 1 = .ok (.ldc 110, 2) := by decide +kernel
theorem d_Arrays_copyOf_3 : decode b_Arrays_copyOf 3 = .ok (.if_acmp .ne 10, 3) := by decide +kernel
theorem d_Arrays_copyOf_6 : decode b_Arrays_copyOf 6 = .ok (.iload_n 1, 1) := by decide +kernel
theorem d_Arrays_copyOf_7 : decode b_Arrays_copyOf 7 = .ok (.anewarray 2, 3) := by decide +kernel
theorem d_Arrays_copyOf_10 : decode b_Arrays_copyOf 10 = .ok (.goto 14, 3) := by decide +kernel
theorem d_Arrays_copyOf_24 : decode b_Arrays_copyOf 24 = .ok (.astore_n 3, 1) := by decide +kernel
theorem d_Arrays_copyOf_25 : decode b_Arrays_copyOf 25 = .ok (.aload_n 0, 1) := by decide +kernel
theorem d_Arrays_copyOf_26 : decode b_Arrays_copyOf 26 = .ok (.iconst 0, 1) := by decide +kernel
theorem d_Arrays_copyOf_27 : decode b_Arrays_copyOf 27 = .ok (.aload_n 3, 1) := by decide +kernel
theorem d_Arrays_copyOf_28 : decode b_Arrays_copyOf 28 = .ok (.iconst 0, 1) := by decide +kernel
theorem d_Arrays_copyOf_29 : decode b_Arrays_copyOf 29 = .ok (.aload_n 0, 1) := by decide +kernel
theorem d_Arrays_copyOf_30 : decode b_Arrays_copyOf 30 = .ok (.arraylength, 1) := by decide +kernel
theorem d_Arrays_copyOf_31 : decode b_Arrays_copyOf 31 = .ok (.iload_n 1, 1) := by decide +kernel
theorem d_Arrays_copyOf_32 : decode b_Arrays_copyOf 32 = .ok (.invokestatic 304, 3) := by decide +kernel
theorem d_Arrays_copyOf_35 : decode b_Arrays_copyOf 35 = .ok (.invokestatic 150, 3) := by decide +kernel
theorem d_Arrays_copyOf_38 : decode b_Arrays_copyOf 38 = .ok (.aload_n 3, 1) := by decide +kernel
theorem d_Arrays_copyOf_39 : decode b_Arrays_copyOf 39 = .ok (.areturn, 1) := by decide +kernel
theorem q_Arrays_copyOf : px_y y_Arrays_copyOf 3 := by unfold px_y; decide +kernel
set_option maxHeartbeats 4000000 in
set_option maxRecDepth 100000 in
theorem c_al_copyOf3 (l : Launch) (D : va_G) (cs : Nat → ClassId) (mi : Nat) (lq : Nat) (lc : Nat) (lg : Nat → Option Nat) (P : va_W) (p0 : Int32)  (g0 : lc ≤ 1000000) (g1 : (lc : Int) ≤ p0.toInt) (g2 : p0.toInt ≤ 2000000) (hel : ∀ j : Nat, (j : Int) < (lc : Int) → ∃ b, lg j = some b ∧ Sy P (some b)) : MgR l y_Arrays_copyOf b_Arrays_copyOf 4 (.array (.object "java/lang/Object")) D cs 1 60 (1) ((p0.toInt.toNat)) [.ref lq, .int p0, .ref mi] [[(lq, .inl (cs 12, lc, .inr (.inr (.inr (.inr lg)))))], P] (oX (fun A U H => (va_Mi "[Ljava/lang/Object;" mi U)) [[(lq, .inl (cs 12, lc, .inr (.inr (.inr (.inr lg)))))], P]) (fun v ps => ∃ (qn' : Nat) (nn' : Nat) (gn' : Nat → Option Nat), (ps.1 = [[(lq, .inl (cs 12, lc, .inr (.inr (.inr (.inr lg)))))], P, [(qn', .inl (cs 12, nn', .inr (.inr (.inr (.inr gn')))))]]) ∧ (v = some qn') ∧ ((nn' : Int) = p0.toInt) ∧ (Cpy lc lg gn') ∧ (ps.2.1 = 1) ∧ ((ps.2.2 : Int) = p0.toInt)) := by
  refine pg_enter (by decide) (Nat.le_of_ble_eq_true rfl) ?_
  intro p e s m below meth c A ls hAe S hr hlk hnm hA hT hX hw hl
  replace hl : lv_has ls 4 [(0, .ref lq), (1, .int p0), (2, .ref mi)] := hl
  have lp0 := Int32.le_toInt p0
  have up0 := Int32.toInt_lt p0
  have cst0 : (0 : Int32).toInt = 0 := rfl
  have hX : (fun A U H => (va_Mi "[Ljava/lang/Object;" mi U)) A s s.heap := by rw [hAe]; exact hX
  have hM := hX
  have hcn : (nI lc).toInt = (lc : Int) := nI_toInt (by omega)
  refine lv_aload_n S.x S.b d_Arrays_copyOf_0 rfl (lv_at hl 2 rfl) ?_
  refine va_ldcM S.x S.b S.own (S.w m2_64) hM d_Arrays_copyOf_1 ?_
  refine lv_acmp_ne (tgt := 13) (rx := some mi) (ry := some mi) S.x S.b d_Arrays_copyOf_3 (by decide) (fun hne => absurd rfl hne) (fun _ => ?_)
  refine lv_iload_n S.x S.b d_Arrays_copyOf_6 rfl (lv_at hl 1 rfl) ?_
  have hcl_q1 := cl_nat (x := p0) (by first | exact oz_016f458179 hcl_q1 | omega)
  refine px_newq S hT hw hA (C := "java/lang/Object") (by decide) m2_66 12 rfl (n := p0) (N' := p0.toNatClampNeg) (fun hq => by have := i_lt.mp hq; have : (0 : Int32).toInt = 0 := rfl; omega) rfl (by omega) (show 0 + 1 ≤ 1 from by first | decide | omega) (show 0 + p0.toNatClampNeg ≤ (p0.toInt.toNat) from by first | with_reducible rfl | with_reducible assumption | omega) d_Arrays_copyOf_7 (fun q1 H hw => ?_)
  replace hw : pw D A s.heap H _ [[(lq, .inl (cs 12, lc, .inr (.inr (.inr (.inr lg)))))], P, [(q1, .inl (cs 12, p0.toNatClampNeg, .inr (.inr (.inr (.inr (fun _ => none))))))]] := hw
  refine lv_goto (tgt := 24) S.x S.b d_Arrays_copyOf_10 (by decide) ?_
  refine lv_astore_n (lv' := [(3, .ref q1), (0, .ref lq), (1, .int p0), (2, .ref mi)]) S.x S.b d_Arrays_copyOf_24 rfl hl (by decide) rfl (fun ls hl => ?_)
  refine lv_aload_n S.x S.b d_Arrays_copyOf_25 rfl (lv_at hl 1 rfl) ?_
  refine lv_iconst (v := 0) S.x S.b d_Arrays_copyOf_26 (by decide) ?_
  refine lv_aload_n S.x S.b d_Arrays_copyOf_27 rfl (lv_at hl 0 rfl) ?_
  refine lv_iconst (v := 0) S.x S.b d_Arrays_copyOf_28 (by decide) ?_
  refine lv_aload_n S.x S.b d_Arrays_copyOf_29 rfl (lv_at hl 1 rfl) ?_
  refine px_len S hT hw 0 0 12 rfl rfl rfl (v := (nI lc)) rfl d_Arrays_copyOf_30 ?_
  refine lv_iload_n S.x S.b d_Arrays_copyOf_31 rfl (lv_at hl 2 rfl) ?_
  refine va_mmin S.x S.b (by rw [S.ml]; exact hl.1.symm) S.own (S.w m2_67) (S.w m2_68) (S.w m1_13) (S.w m2_69) (Nat.le_of_ble_eq_true rfl) (Nat.le_of_ble_eq_true rfl) (show (0 + 1) ≤ 1 from by first | with_reducible rfl | with_reducible assumption | omega) (show (0 + p0.toNatClampNeg) ≤ (p0.toInt.toNat) from by first | with_reducible rfl | with_reducible assumption | omega) d_Arrays_copyOf_32 ?_
  refine lv_topi (fun z2 ez2 => ?_)
  have tz2 := i_min (nI lc) p0 ez2
  have lz2 := Int32.le_toInt z2
  have uz2 := Int32.toInt_lt z2
  refine px_copyO S hT hw 0 0 2 0 1 (f := lg) (g := (fun _ => none)) rfl rfl rfl rfl rfl (n := z2) (by omega) (by omega) (by omega) (fun j hj => hel j (by omega)) m2_70 m2_72 m2_71 m1_15 m14_239n hl.1 (Nat.le_of_ble_eq_true rfl) (Nat.le_of_ble_eq_true rfl) d_Arrays_copyOf_35 (w' := [(q1, .inl (cs 12, p0.toNatClampNeg, .inr (.inr (.inr (.inr (va_cpy lg (fun _ => none) 0 0 z2.toNatClampNeg))))))]) (ps' := [[(lq, .inl (cs 12, lc, .inr (.inr (.inr (.inr lg)))))], P, [(q1, .inl (cs 12, p0.toNatClampNeg, .inr (.inr (.inr (.inr (va_cpy lg (fun _ => none) 0 0 z2.toNatClampNeg))))))]]) rfl rfl (fun H locs hw => ?_)
  refine lv_aload_n S.x S.b d_Arrays_copyOf_38 rfl (lv_at hl 0 rfl) ?_
  exact pg_aret (v := (some q1)) S hr (Or.inr ⟨_, rfl⟩) hlk hAe hw (show (0 + 1) ≤ 1 from by first | with_reducible rfl | with_reducible assumption | omega) (show (0 + p0.toNatClampNeg) ≤ (p0.toInt.toNat) from by first | with_reducible rfl | with_reducible assumption | omega) (⟨q1, p0.toNatClampNeg, (va_cpy lg (fun _ => none) 0 0 z2.toNatClampNeg), rfl, rfl, (show (p0.toNatClampNeg : Int) = p0.toInt from by first | exact hcl_q1 | omega), (show Cpy lc lg (va_cpy lg (fun _ => none) 0 0 z2.toNatClampNeg) from (by first | assumption | exact cpy_rf | exact cpy_mk (by have hc9 := cl_nat (x := z2) (by omega); omega) | exact cpy_0)), (show (0 + 1) = 1 from by first | with_reducible rfl | with_reducible assumption | omega), (show ((0 + p0.toNatClampNeg) : Int) = p0.toInt from by first | exact oz_fe6a99f05c hcl_q1 | omega)⟩) d_Arrays_copyOf_39
abbrev b_Arrays_copyOf2 : ByteArray := prog_40_method_119_code
def y_Arrays_copyOf2 : MethodName := ⟨"java/util/Arrays", "copyOf", "([Ljava/lang/Object;I)[Ljava/lang/Object;"⟩
theorem d_Arrays_copyOf2_0 : decode b_Arrays_copyOf2 0 = .ok (.aload_n 0, 1) := by decide +kernel
theorem d_Arrays_copyOf2_1 : decode b_Arrays_copyOf2 1 = .ok (.iload_n 1, 1) := by decide +kernel
theorem d_Arrays_copyOf2_2 : decode b_Arrays_copyOf2 2 = .ok (.aload_n 0, 1) := by decide +kernel
theorem d_Arrays_copyOf2_3 : decode b_Arrays_copyOf2 3 = .ok (.invokevirtual 86, 3) := by decide +kernel
theorem d_Arrays_copyOf2_6 : decode b_Arrays_copyOf2 6 = .ok (.invokestatic 300, 3) := by decide +kernel
theorem d_Arrays_copyOf2_9 : decode b_Arrays_copyOf2 9 = .ok (.areturn, 1) := by decide +kernel
theorem q_Arrays_copyOf2 : px_y y_Arrays_copyOf2 2 := by unfold px_y; decide +kernel
set_option maxHeartbeats 4000000 in
set_option maxRecDepth 100000 in
theorem c_al_copyOf2 (l : Launch) (D : va_G) (cs : Nat → ClassId) (mi : Nat) (lq : Nat) (lc : Nat) (lg : Nat → Option Nat) (P : va_W) (p0 : Int32)  (g0 : lc ≤ 1000000) (g1 : (lc : Int) ≤ p0.toInt) (g2 : p0.toInt ≤ 2000000) (hel : ∀ j : Nat, (j : Int) < (lc : Int) → ∃ b, lg j = some b ∧ Sy P (some b)) : MgR l y_Arrays_copyOf2 b_Arrays_copyOf2 2 (.array (.object "java/lang/Object")) D cs 2 120 (1) ((p0.toInt.toNat)) [.ref lq, .int p0] [[(lq, .inl (cs 12, lc, .inr (.inr (.inr (.inr lg)))))], P] (oX (fun A U H => (va_Mi "[Ljava/lang/Object;" mi U)) [[(lq, .inl (cs 12, lc, .inr (.inr (.inr (.inr lg)))))], P]) (fun v ps => ∃ (qn' : Nat) (nn' : Nat) (gn' : Nat → Option Nat), (ps.1 = [[(lq, .inl (cs 12, lc, .inr (.inr (.inr (.inr lg)))))], P, [(qn', .inl (cs 12, nn', .inr (.inr (.inr (.inr gn')))))]]) ∧ (v = some qn') ∧ ((nn' : Int) = p0.toInt) ∧ (Cpy lc lg gn') ∧ (ps.2.1 = 1) ∧ ((ps.2.2 : Int) = p0.toInt)) := by
  refine pg_enter (by decide) (Nat.le_of_ble_eq_true rfl) ?_
  intro p e s m below meth c A ls hAe S hr hlk hnm hA hT hX hw hl
  replace hl : lv_has ls 2 [(0, .ref lq), (1, .int p0)] := hl
  have lp0 := Int32.le_toInt p0
  have up0 := Int32.toInt_lt p0
  have hX : (fun A U H => (va_Mi "[Ljava/lang/Object;" mi U)) A s s.heap := by rw [hAe]; exact hX
  have hM := hX
  have hcn : (nI lc).toInt = (lc : Int) := nI_toInt (by omega)
  refine lv_aload_n S.x S.b d_Arrays_copyOf2_0 rfl (lv_at hl 0 rfl) ?_
  refine lv_iload_n S.x S.b d_Arrays_copyOf2_1 rfl (lv_at hl 1 rfl) ?_
  refine lv_aload_n S.x S.b d_Arrays_copyOf2_2 rfl (lv_at hl 0 rfl) ?_
  refine va_getC S.x S.b (by rw [S.ml]; exact hl.1.symm) S.own (S.w m2_35) (va_Nw.use rfl (hT.2.2 _ m14_235n rfl)) (S.w m14_234) (S.w m2_36) (S.w m2_60) hM (px_arrq hT hw 0 0 rfl rfl) (Nat.le_of_ble_eq_true rfl) (Nat.le_of_ble_eq_true rfl) d_Arrays_copyOf2_3 ?_
  refine pg_callq (pr := []) (px_runS (As := [.ref lq, .int p0, .ref mi]) (rest := []) S (c_al_copyOf3 l D cs mi lq lc lg P p0  (show lc ≤ 1000000 from by first | exact g0 | omega) (show (lc : Int) ≤ p0.toInt from by first | exact g1 | omega) (show p0.toInt ≤ 2000000 from by first | exact g2 | omega) hel _ _) hT (pr := []) (pcs := [[(lq, .inl (cs 12, lc, .inr (.inr (.inr (.inr lg)))))], P]) hw (px_X.tot (oX_call (P := (fun A U H => (va_Mi "[Ljava/lang/Object;" mi U))) (pr := []) oG_M hw hA hM)) m2_63 m2_61 m2_62 m1_14 q_Arrays_copyOf ⟨Nat.le_of_ble_eq_true rfl, Nat.le_of_ble_eq_true rfl⟩ hl.1 rfl (Nat.le_of_ble_eq_true rfl) d_Arrays_copyOf2_6 ⟨show 0 + 1 ≤ 1 from by omega, show 0 + (p0.toInt.toNat) ≤ (p0.toInt.toNat) from (by first | exact oz_06727f128b | omega)⟩) hw hA (fun v5 p4 k6 n7 H locs hp4 hw => ?_)
  dsimp only at hp4
  obtain ⟨qn1, nn2, gn3, rfl, rfl, e8, e9, e10, e11⟩ := hp4
  replace e8 : (nn2 : Int) = p0.toInt := e8
  replace e9 : Cpy lc lg gn3 := e9
  replace e10 : k6 = 1 := e10
  replace e11 : (n7 : Int) = p0.toInt := e11
  replace hw : pw D A s.heap H locs [[(lq, .inl (cs 12, lc, .inr (.inr (.inr (.inr lg)))))], P, [(qn1, .inl (cs 12, nn2, .inr (.inr (.inr (.inr gn3)))))]] := hw
  exact pg_aret (v := (some qn1)) S hr (Or.inr ⟨_, rfl⟩) hlk hAe hw (show (0 + k6) ≤ 1 from by first | exact oz_e388ee030b e10 | omega) (show (0 + n7) ≤ (p0.toInt.toNat) from by first | with_reducible rfl | with_reducible assumption | omega) (⟨qn1, nn2, gn3, rfl, rfl, (show (nn2 : Int) = p0.toInt from by first | exact e8 | omega), (show Cpy lc lg gn3 from (by first | assumption | exact cpy_rf | exact cpy_0)), (show (0 + k6) = 1 from by first | exact oz_bb9c11fbd5 e10 | omega), (show ((0 + n7) : Int) = p0.toInt from by first | exact oz_fe6a99f05c e11 | omega)⟩) d_Arrays_copyOf2_9
abbrev b_Lst_grow : ByteArray := prog_39_method_6_code
def y_Lst_grow : MethodName := ⟨"java/util/ArrayList", "grow", "(I)[Ljava/lang/Object;"⟩
theorem d_Lst_grow_0 : decode b_Lst_grow 0 = .ok (.aload_n 0, 1) := by decide +kernel
theorem d_Lst_grow_1 : decode b_Lst_grow 1 = .ok (.getfield 9, 3) := by decide +kernel
theorem d_Lst_grow_4 : decode b_Lst_grow 4 = .ok (.arraylength, 1) := by decide +kernel
theorem d_Lst_grow_5 : decode b_Lst_grow 5 = .ok (.istore_n 2, 1) := by decide +kernel
theorem d_Lst_grow_6 : decode b_Lst_grow 6 = .ok (.iload_n 2, 1) := by decide +kernel
theorem d_Lst_grow_7 : decode b_Lst_grow 7 = .ok (.ifCond .gt 13, 3) := by decide +kernel
theorem d_Lst_grow_10 : decode b_Lst_grow 10 = .ok (.aload_n 0, 1) := by decide +kernel
theorem d_Lst_grow_11 : decode b_Lst_grow 11 = .ok (.getfield 9, 3) := by decide +kernel
theorem d_Lst_grow_14 : decode b_Lst_grow 14 = .ok (.getstatic 39, 3) := by decide +kernel
theorem d_Lst_grow_17 : decode b_Lst_grow 17 = .ok (.if_acmp .eq 28, 3) := by decide +kernel
theorem d_Lst_grow_20 : decode b_Lst_grow 20 = .ok (.iload_n 2, 1) := by decide +kernel
theorem d_Lst_grow_21 : decode b_Lst_grow 21 = .ok (.iload_n 1, 1) := by decide +kernel
theorem d_Lst_grow_22 : decode b_Lst_grow 22 = .ok (.iload_n 2, 1) := by decide +kernel
theorem d_Lst_grow_23 : decode b_Lst_grow 23 = .ok (.isub, 1) := by decide +kernel
theorem d_Lst_grow_24 : decode b_Lst_grow 24 = .ok (.iload_n 2, 1) := by decide +kernel
theorem d_Lst_grow_25 : decode b_Lst_grow 25 = .ok (.iconst 1, 1) := by decide +kernel
theorem d_Lst_grow_26 : decode b_Lst_grow 26 = .ok (.ishr, 1) := by decide +kernel
theorem d_Lst_grow_27 : decode b_Lst_grow 27 = .ok (.invokestatic 73, 3) := by decide +kernel
theorem d_Lst_grow_30 : decode b_Lst_grow 30 = .ok (.istore_n 3, 1) := by decide +kernel
theorem d_Lst_grow_31 : decode b_Lst_grow 31 = .ok (.aload_n 0, 1) := by decide +kernel
theorem d_Lst_grow_32 : decode b_Lst_grow 32 = .ok (.aload_n 0, 1) := by decide +kernel
theorem d_Lst_grow_33 : decode b_Lst_grow 33 = .ok (.getfield 9, 3) := by decide +kernel
theorem d_Lst_grow_36 : decode b_Lst_grow 36 = .ok (.iload_n 3, 1) := by decide +kernel
theorem d_Lst_grow_37 : decode b_Lst_grow 37 = .ok (.invokestatic 66, 3) := by decide +kernel
theorem d_Lst_grow_40 : decode b_Lst_grow 40 = .ok (.dup_x1, 1) := by decide +kernel
theorem d_Lst_grow_41 : decode b_Lst_grow 41 = .ok (.putfield 9, 3) := by decide +kernel
theorem d_Lst_grow_44 : decode b_Lst_grow 44 = .ok (.areturn, 1) := by decide +kernel
theorem d_Lst_grow_45 : decode b_Lst_grow 45 = .ok (.aload_n 0, 1) := by decide +kernel
theorem d_Lst_grow_46 : decode b_Lst_grow 46 = .ok (.bipush 10, 2) := by decide +kernel
theorem d_Lst_grow_48 : decode b_Lst_grow 48 = .ok (.iload_n 1, 1) := by decide +kernel
theorem d_Lst_grow_49 : decode b_Lst_grow 49 = .ok (.invokestatic 79, 3) := by decide +kernel
theorem d_Lst_grow_52 : decode b_Lst_grow 52 = .ok (.anewarray 7, 3) := by decide +kernel
theorem d_Lst_grow_55 : decode b_Lst_grow 55 = .ok (.dup_x1, 1) := by decide +kernel
theorem d_Lst_grow_56 : decode b_Lst_grow 56 = .ok (.putfield 9, 3) := by decide +kernel
theorem d_Lst_grow_59 : decode b_Lst_grow 59 = .ok (.areturn, 1) := by decide +kernel
theorem q_Lst_grow : px_y y_Lst_grow 1 := by unfold px_y; decide +kernel
set_option maxHeartbeats 4000000 in
set_option maxRecDepth 100000 in
theorem c_al_growI_T (l : Launch) (D : va_G) (cs : Nat → ClassId) (mi : Nat) (hl0 : Nat) (lq : Nat) (lc : Nat) (lf : Nat → Int32) (lg : Nat → Option Nat) (P : va_W) (p0 : Int32)  (g0 : lc ≤ 1000000) (g1 : 10 ≤ lc) (g2 : (lf 1).toInt = (lc : Int)) (g3 : p0.toInt = (lc : Int) + 1) (hel : ElS P (lf 1) lg) : MgR l y_Lst_grow b_Lst_grow 4 (.array (.object "java/lang/Object")) D cs 3 200 (1) ((4 * lc + 40)) [.ref hl0, .int p0] [wd_Lst cs hl0 (fun _ => 0) (fun k => if k = 0 then (some lq) else none) lf (fun _ _ => 0) (fun _ _ => none), [(lq, .inl (cs 12, lc, .inr (.inr (.inr (.inr lg)))))], P] (oX (fun A U H => (va_Mi "[Ljava/lang/Object;" mi U)) [wd_Lst cs hl0 (fun _ => 0) (fun k => if k = 0 then (some lq) else none) lf (fun _ _ => 0) (fun _ _ => none), [(lq, .inl (cs 12, lc, .inr (.inr (.inr (.inr lg)))))], P]) (fun v ps => ∃ (lq' lc' : Nat) (lf' : Nat → Int32) (lg' : Nat → Option Nat), (ps.1 = [wd_Lst cs hl0 (fun _ => 0) (fun k => if k = 0 then (some lq') else none) lf' (fun _ _ => 0) (fun _ _ => none), [(lq', .inl (cs 12, lc', .inr (.inr (.inr (.inr lg')))))], P]) ∧ (v = some lq') ∧ ((lf' 1).toInt = (lf 1).toInt) ∧ (10 ≤ lc') ∧ (Cpy lc lg lg') ∧ ((lc : Int) + 1 ≤ (lc' : Int)) ∧ ((lc' : Int) ≤ 2 * (lc : Int) + 10) ∧ (ps.2.1 ≤ 1) ∧ ((ps.2.1 : Int) ≤ (lc' : Int) - (lc : Int)) ∧ ((ps.2.2 : Int) ≤ 4 * ((lc' : Int) - (lc : Int)))) := by
  refine pg_enter (by decide) (Nat.le_of_ble_eq_true rfl) ?_
  intro p e s m below meth c A ls hAe S hr hlk hnm hA hT hX hw hl
  replace hl : lv_has ls 4 [(0, .ref hl0), (1, .int p0)] := hl
  have lp0 := Int32.le_toInt p0
  have up0 := Int32.toInt_lt p0
  have cst1 : (1 : Int32).toInt = 1 := rfl
  have cst10 : (10 : Int32).toInt = 10 := rfl
  have hX : (fun A U H => (va_Mi "[Ljava/lang/Object;" mi U)) A s s.heap := by rw [hAe]; exact hX
  have hM := hX
  have hcn : (nI lc).toInt = (lc : Int) := nI_toInt (by omega)
  have hel0 := hel
  have hel := fun (j : Nat) (hj : (j : Int) < (lc : Int)) => hel0 j (by omega)
  refine lv_aload_n S.x S.b d_Lst_grow_0 rfl (lv_at hl 0 rfl) ?_
  refine px_get S k_Lst hT hw 0 0 0 (v := .ref lq) rfl rfl rfl (by decide) m1_188 d_Lst_grow_1 ?_
  refine px_len S hT hw 1 0 12 rfl rfl rfl (v := (nI lc)) rfl d_Lst_grow_4 ?_
  refine lv_istore_n (lv' := [(2, .int (nI lc)), (0, .ref hl0), (1, .int p0)]) S.x S.b d_Lst_grow_5 rfl hl (by decide) rfl (fun ls hl => ?_)
  refine lv_iload_n S.x S.b d_Lst_grow_6 rfl (lv_at hl 0 rfl) ?_
  refine lv_if_gt (tgt := 20) S.x S.b d_Lst_grow_7 (by decide) (fun c1 => ?_) (fun c1 => ?_)
  · have nc1 : (0 : Int) < (nI lc).toInt := (i_lt (x := 0) (y := (nI lc))).mp c1
    refine lv_iload_n S.x S.b d_Lst_grow_20 rfl (lv_at hl 0 rfl) ?_
    refine lv_iload_n S.x S.b d_Lst_grow_21 rfl (lv_at hl 2 rfl) ?_
    refine lv_iload_n S.x S.b d_Lst_grow_22 rfl (lv_at hl 0 rfl) ?_
    refine lv_isub S.x S.b d_Lst_grow_23 ?_
    have lr2 := Int32.le_toInt (nI lc)
    have ur2 := Int32.toInt_lt (nI lc)
    refine lv_topi (fun z3 ez3 => ?_)
    have tz3 : z3.toInt = (p0.toInt - (nI lc).toInt + 2147483648) % 4294967296 - 2147483648 := by rw [ez3]; exact i_sub p0 (nI lc)
    have lz3 := Int32.le_toInt z3
    have uz3 := Int32.toInt_lt z3
    try replace tz3 : z3.toInt = p0.toInt - (nI lc).toInt := by omega
    refine lv_iload_n S.x S.b d_Lst_grow_24 rfl (lv_at hl 0 rfl) ?_
    refine lv_iconst (v := 1) S.x S.b d_Lst_grow_25 (by decide) ?_
    refine lv_ishr S.x S.b d_Lst_grow_26 ?_
    have lr4 := Int32.le_toInt (nI lc)
    have ur4 := Int32.toInt_lt (nI lc)
    refine lv_topi (fun z5 ez5 => ?_)
    have tz5 : z5.toInt = (nI lc).toInt / 2 := by rw [ez5]; exact i_shr (nI lc) 1 (k := 1) (d := 2) (by decide) (by decide)
    have lz5 := Int32.le_toInt z5
    have uz5 := Int32.toInt_lt z5
    refine px_calli (pr := [wd_Lst cs hl0 (fun _ => 0) (fun k => if k = 0 then (some lq) else none) lf (fun _ _ => 0) (fun _ _ => none), [(lq, .inl (cs 12, lc, .inr (.inr (.inr (.inr lg)))))], P]) (px_runS (As := [.int (nI lc), .int z3, .int z5]) (rest := []) S (c_al_newLength l D cs  (nI lc) z3 z5  (show 0 ≤ (nI lc).toInt from by first | exact oz_ee1f943402 nc1 | omega) (show (nI lc).toInt ≤ 1000000 from by first | exact oz_abee21d448 hcn g0 | omega) (show 1 ≤ z3.toInt from by first | exact oz_02730ae20c tz3 g3 hcn | omega) (show z3.toInt ≤ 1000000 from by first | exact oz_6dfb27f070 tz3 g3 hcn | omega) (show 0 ≤ z5.toInt from by first | with_reducible rfl | with_reducible assumption | omega) (show z5.toInt ≤ 1000000 from by first | with_reducible rfl | with_reducible assumption | omega) _) hT (pr := [wd_Lst cs hl0 (fun _ => 0) (fun k => if k = 0 then (some lq) else none) lf (fun _ _ => 0) (fun _ _ => none), [(lq, .inl (cs 12, lc, .inr (.inr (.inr (.inr lg)))))], P]) (pcs := []) hw px_X.tt m2_24 m2_22 m2_23 m1_12 q_ArraysSupport_newLength ⟨Nat.le_of_ble_eq_true rfl, Nat.le_of_ble_eq_true rfl⟩ hl.1 rfl (Nat.le_of_ble_eq_true rfl) d_Lst_grow_27 ⟨show 0 + 0 ≤ 1 from by omega, show 0 + 0 ≤ (4 * lc + 40) from (by first | exact oz_1c0428a576 | omega)⟩) hw hA (fun v7 p6 H locs hp6 hw => ?_)
    obtain ⟨rfl, e8, e9, e10⟩ := hp6
    replace e8 : (nI lc).toInt + z3.toInt ≤ v7.toInt := e8
    replace e9 : (nI lc).toInt + z5.toInt ≤ v7.toInt := e9
    replace e10 : v7.toInt = (nI lc).toInt + z3.toInt ∨ v7.toInt = (nI lc).toInt + z5.toInt := e10
    replace hw : pw D A s.heap H locs [wd_Lst cs hl0 (fun _ => 0) (fun k => if k = 0 then (some lq) else none) lf (fun _ _ => 0) (fun _ _ => none), [(lq, .inl (cs 12, lc, .inr (.inr (.inr (.inr lg)))))], P] := hw
    have lv7 := Int32.le_toInt v7
    have uv7 := Int32.toInt_lt v7
    refine lv_istore_n (lv' := [(3, .int v7), (2, .int (nI lc)), (0, .ref hl0), (1, .int p0)]) S.x S.b d_Lst_grow_30 rfl hl (by decide) rfl (fun ls hl => ?_)
    refine lv_aload_n S.x S.b d_Lst_grow_31 rfl (lv_at hl 2 rfl) ?_
    refine lv_aload_n S.x S.b d_Lst_grow_32 rfl (lv_at hl 2 rfl) ?_
    refine px_get S k_Lst hT hw 0 0 0 (v := .ref lq) rfl rfl rfl (by decide) m1_188 d_Lst_grow_33 ?_
    refine lv_iload_n S.x S.b d_Lst_grow_36 rfl (lv_at hl 0 rfl) ?_
    refine pg_callq (pr := [wd_Lst cs hl0 (fun _ => 0) (fun k => if k = 0 then (some lq) else none) lf (fun _ _ => 0) (fun _ _ => none)]) (px_runS (As := [.ref lq, .int v7]) (rest := [.ref hl0]) S (c_al_copyOf2 l D cs mi lq lc lg P v7  (show lc ≤ 1000000 from by first | exact g0 | omega) (show (lc : Int) ≤ v7.toInt from by first | exact oz_56beb846e0 g3 e8 tz3 | omega) (show v7.toInt ≤ 2000000 from by first | with_reducible rfl | with_reducible assumption | omega) hel _ _) hT (pr := [wd_Lst cs hl0 (fun _ => 0) (fun k => if k = 0 then (some lq) else none) lf (fun _ _ => 0) (fun _ _ => none)]) (pcs := [[(lq, .inl (cs 12, lc, .inr (.inr (.inr (.inr lg)))))], P]) hw (px_X.tot (oX_call (P := (fun A U H => (va_Mi "[Ljava/lang/Object;" mi U))) (pr := [wd_Lst cs hl0 (fun _ => 0) (fun k => if k = 0 then (some lq) else none) lf (fun _ _ => 0) (fun _ _ => none)]) oG_M hw hA hM)) m2_34 m2_32 m2_33 m1_14 q_Arrays_copyOf2 ⟨Nat.le_of_ble_eq_true rfl, Nat.le_of_ble_eq_true rfl⟩ hl.1 rfl (Nat.le_of_ble_eq_true rfl) d_Lst_grow_37 ⟨show 0 + 1 ≤ 1 from by omega, show 0 + (v7.toInt.toNat) ≤ (4 * lc + 40) from by omega⟩) hw hA (fun v15 p14 k16 n17 H locs hp14 hw => ?_)
    dsimp only at hp14
    obtain ⟨qn11, nn12, gn13, rfl, rfl, e18, e19, e20, e21⟩ := hp14
    replace e18 : (nn12 : Int) = v7.toInt := e18
    replace e19 : Cpy lc lg gn13 := e19
    replace e20 : k16 = 1 := e20
    replace e21 : (n17 : Int) = v7.toInt := e21
    replace hw : pw D A s.heap H locs [wd_Lst cs hl0 (fun _ => 0) (fun k => if k = 0 then (some lq) else none) lf (fun _ _ => 0) (fun _ _ => none), [(lq, .inl (cs 12, lc, .inr (.inr (.inr (.inr lg)))))], P, [(qn11, .inl (cs 12, nn12, .inr (.inr (.inr (.inr gn13)))))]] := hw
    refine lv_dup_x1 S.x S.b d_Lst_grow_40 rfl rfl ?_
    refine px_put S k_Lst hT hw 0 0 0 rfl rfl (by decide) m1_188 rfl rfl rfl (Nat.le_of_ble_eq_true rfl) d_Lst_grow_41 (w' := wd_Lst cs hl0 (fun _ => 0) (fun k => if k = 0 then (some qn11) else none) lf (fun _ _ => 0) (fun _ _ => none)) (ps' := [wd_Lst cs hl0 (fun _ => 0) (fun k => if k = 0 then (some qn11) else none) lf (fun _ _ => 0) (fun _ _ => none), [(lq, .inl (cs 12, lc, .inr (.inr (.inr (.inr lg)))))], P, [(qn11, .inl (cs 12, nn12, .inr (.inr (.inr (.inr gn13)))))]]) rfl rfl (fun H locs hw => ?_)
    have hw : pw D A s.heap _ _ [wd_Lst cs hl0 (fun _ => 0) (fun k => if k = 0 then (some qn11) else none) lf (fun _ _ => 0) (fun _ _ => none), [(qn11, .inl (cs 12, nn12, .inr (.inr (.inr (.inr gn13)))))], P] := hw.sub [0, 3, 2] rfl rfl
    exact pg_aret (v := (some qn11)) S hr (Or.inr ⟨_, rfl⟩) hlk hAe hw (show (0 + k16) ≤ 1 from by first | exact oz_e388ee030b e20 | omega) (show (0 + n17) ≤ (4 * lc + 40) from by first | with_reducible rfl | with_reducible assumption | omega) (⟨qn11, nn12, lf, gn13, rfl, rfl, (show (lf 1).toInt = (lf 1).toInt from by first | omega | exact Or.inr rfl), (show 10 ≤ nn12 from by first | omega | exact Or.inr rfl), (show Cpy lc lg gn13 from (by first | assumption | exact cpy_rf | exact cpy_0)), (show (lc : Int) + 1 ≤ (nn12 : Int) from by first | omega | exact Or.inr rfl), (show (nn12 : Int) ≤ 2 * (lc : Int) + 10 from by first | omega | exact Or.inr rfl), (show (0 + k16) ≤ 1 from by first | exact oz_e388ee030b e20 | omega), (show ((0 + k16) : Int) ≤ (nn12 : Int) - (lc : Int) from by first | exact oz_1e4b51dcb4 g3 e18 e20 tz3 e8 | omega), (show ((0 + n17) : Int) ≤ 4 * ((nn12 : Int) - (lc : Int)) from by first | with_reducible rfl | with_reducible assumption | omega)⟩) d_Lst_grow_44
  · have nc1 : ¬ (0 : Int) < (nI lc).toInt := mt (i_lt (x := 0) (y := (nI lc))).mpr c1
    exfalso
    omega
set_option maxHeartbeats 4000000 in
set_option maxRecDepth 100000 in
theorem c_al_growI_F (l : Launch) (D : va_G) (cs : Nat → ClassId) (em : Nat) (mi : Nat) (hl0 : Nat) (lq : Nat) (lf : Nat → Int32) (P : va_W) (p0 : Int32)  (g0 : p0.toInt = 1) (hle : lq = em) : MgR l y_Lst_grow b_Lst_grow 4 (.array (.object "java/lang/Object")) D cs 3 200 (1) ((40)) [.ref hl0, .int p0] [wd_Lst cs hl0 (fun _ => 0) (fun k => if k = 0 then (some lq) else none) lf (fun _ _ => 0) (fun _ _ => none), P] (oX (fun A U H => (oE A em U H) ∧ (va_Mi "[Ljava/lang/Object;" mi U)) [wd_Lst cs hl0 (fun _ => 0) (fun k => if k = 0 then (some lq) else none) lf (fun _ _ => 0) (fun _ _ => none), P]) (fun v ps => ∃ (lq' lc' : Nat) (lf' : Nat → Int32) (lg' : Nat → Option Nat), (ps.1 = [wd_Lst cs hl0 (fun _ => 0) (fun k => if k = 0 then (some lq') else none) lf' (fun _ _ => 0) (fun _ _ => none), [(lq', .inl (cs 12, lc', .inr (.inr (.inr (.inr lg')))))], P]) ∧ (v = some lq') ∧ ((lf' 1).toInt = (lf 1).toInt) ∧ (10 ≤ lc') ∧ (Cpy 0 (fun _ => none) lg') ∧ ((0 : Int) + 1 ≤ (lc' : Int)) ∧ ((lc' : Int) ≤ 2 * (0 : Int) + 10) ∧ (ps.2.1 ≤ 1) ∧ ((ps.2.1 : Int) ≤ (lc' : Int) - (0 : Int)) ∧ ((ps.2.2 : Int) ≤ 4 * ((lc' : Int) - (0 : Int)))) := by
  refine pg_enter (by decide) (Nat.le_of_ble_eq_true rfl) ?_
  intro p e s m below meth c A ls hAe S hr hlk hnm hA hT hX hw hl
  replace hl : lv_has ls 4 [(0, .ref hl0), (1, .int p0)] := hl
  have lp0 := Int32.le_toInt p0
  have up0 := Int32.toInt_lt p0
  have cst1 : (1 : Int32).toInt = 1 := rfl
  have cst10 : (10 : Int32).toInt = 10 := rfl
  have hX : (fun A U H => (oE A em U H) ∧ (va_Mi "[Ljava/lang/Object;" mi U)) A s s.heap := by rw [hAe]; exact hX
  obtain ⟨hE, hM⟩ := hX
  subst hle
  refine lv_aload_n S.x S.b d_Lst_grow_0 rfl (lv_at hl 0 rfl) ?_
  refine px_get S k_Lst hT hw 0 0 0 (v := .ref lq) rfl rfl rfl (by decide) m1_188 d_Lst_grow_1 ?_
  refine va_tlen S.x S.b hE.2 hw.2.2 (v := 0) rfl d_Lst_grow_4 ?_
  refine lv_istore_n (lv' := [(2, .int 0), (0, .ref hl0), (1, .int p0)]) S.x S.b d_Lst_grow_5 rfl hl (by decide) rfl (fun ls hl => ?_)
  refine lv_iload_n S.x S.b d_Lst_grow_6 rfl (lv_at hl 0 rfl) ?_
  refine lv_if_gt (tgt := 20) S.x S.b d_Lst_grow_7 (by decide) (fun c1 => ?_) (fun c1 => ?_)
  · exact absurd c1 (by decide)
  ·
    refine lv_aload_n S.x S.b d_Lst_grow_10 rfl (lv_at hl 1 rfl) ?_
    refine px_get S k_Lst hT hw 0 0 0 (v := .ref lq) rfl rfl rfl (by decide) m1_188 d_Lst_grow_11 ?_
    refine va_gets S.x S.b hE.1 hw.2.2 S.own (S.w m1_186) (fun _ h => h) d_Lst_grow_14 ?_
    refine lv_acmp_eq (tgt := 45) (rx := some lq) (ry := some lq) S.x S.b d_Lst_grow_17 (by decide) (fun _ => ?_) (fun hne => absurd rfl hne)
    refine lv_aload_n S.x S.b d_Lst_grow_45 rfl (lv_at hl 1 rfl) ?_
    refine lv_bipush (v := 10) S.x S.b d_Lst_grow_46 (by decide) ?_
    refine lv_iload_n S.x S.b d_Lst_grow_48 rfl (lv_at hl 2 rfl) ?_
    refine va_mmax S.x S.b (by rw [S.ml]; exact hl.1.symm) S.own (S.w m2_73) (S.w m2_26) (S.w m1_13) (S.w m2_27) (Nat.le_of_ble_eq_true rfl) (Nat.le_of_ble_eq_true rfl) (show 0 ≤ 1 from by first | decide | omega) (show 0 ≤ (40) from by first | with_reducible rfl | with_reducible assumption | omega) d_Lst_grow_49 ?_
    refine lv_topi (fun z2 ez2 => ?_)
    have tz2 := i_max 10 p0 ez2
    have lz2 := Int32.le_toInt z2
    have uz2 := Int32.toInt_lt z2
    have hcl_q3 := cl_nat (x := z2) (by first | exact oz_9e013e70f5 tz2.2.1 g0 | omega)
    refine px_newq S hT hw hA (C := "java/lang/Object") (by decide) m2_74 12 rfl (n := z2) (N' := z2.toNatClampNeg) (fun hq => by have := i_lt.mp hq; have : (0 : Int32).toInt = 0 := rfl; omega) rfl (by omega) (show 0 + 1 ≤ 1 from by first | decide | omega) (show 0 + z2.toNatClampNeg ≤ (40) from by first | with_reducible rfl | with_reducible assumption | omega) d_Lst_grow_52 (fun q3 H hw => ?_)
    replace hw : pw D A s.heap H _ [wd_Lst cs hl0 (fun _ => 0) (fun k => if k = 0 then (some lq) else none) lf (fun _ _ => 0) (fun _ _ => none), P, [(q3, .inl (cs 12, z2.toNatClampNeg, .inr (.inr (.inr (.inr (fun _ => none))))))]] := hw
    refine lv_dup_x1 S.x S.b d_Lst_grow_55 rfl rfl ?_
    refine px_put S k_Lst hT hw 0 0 0 rfl rfl (by decide) m1_188 rfl rfl rfl (Nat.le_of_ble_eq_true rfl) d_Lst_grow_56 (w' := wd_Lst cs hl0 (fun _ => 0) (fun k => if k = 0 then (some q3) else none) lf (fun _ _ => 0) (fun _ _ => none)) (ps' := [wd_Lst cs hl0 (fun _ => 0) (fun k => if k = 0 then (some q3) else none) lf (fun _ _ => 0) (fun _ _ => none), P, [(q3, .inl (cs 12, z2.toNatClampNeg, .inr (.inr (.inr (.inr (fun _ => none))))))]]) rfl rfl (fun H locs hw => ?_)
    have hw : pw D A s.heap _ _ [wd_Lst cs hl0 (fun _ => 0) (fun k => if k = 0 then (some q3) else none) lf (fun _ _ => 0) (fun _ _ => none), [(q3, .inl (cs 12, (z2.toNatClampNeg), .inr (.inr (.inr (.inr (fun _ => none))))))], P] := hw.sub [0, 2, 1] rfl rfl
    exact pg_aret (v := (some q3)) S hr (Or.inr ⟨_, rfl⟩) hlk hAe hw (show (0 + 1) ≤ 1 from by first | with_reducible rfl | with_reducible assumption | omega) (show (0 + z2.toNatClampNeg) ≤ (40) from by first | with_reducible rfl | with_reducible assumption | omega) (⟨q3, (z2.toNatClampNeg), lf, (fun _ => none), rfl, rfl, (show (lf 1).toInt = (lf 1).toInt from by first | omega | exact Or.inr rfl), (show 10 ≤ (z2.toNatClampNeg) from by first | omega | exact Or.inr rfl), (show Cpy 0 (fun _ => none) (fun _ => none) from (by first | assumption | exact cpy_rf | exact cpy_0)), (show (0 : Int) + 1 ≤ ((z2.toNatClampNeg) : Int) from by first | omega | exact Or.inr rfl), (show ((z2.toNatClampNeg) : Int) ≤ 2 * (0 : Int) + 10 from by first | omega | exact Or.inr rfl), (show (0 + 1) ≤ 1 from by first | with_reducible rfl | with_reducible assumption | omega), (show ((0 + 1) : Int) ≤ ((z2.toNatClampNeg) : Int) - (0 : Int) from by first | with_reducible rfl | with_reducible assumption | omega), (show ((0 + z2.toNatClampNeg) : Int) ≤ 4 * (((z2.toNatClampNeg) : Int) - (0 : Int)) from by first | exact oz_a6f86461ad | omega)⟩) d_Lst_grow_59
abbrev b_Lst_grow2 : ByteArray := prog_39_method_7_code
def y_Lst_grow2 : MethodName := ⟨"java/util/ArrayList", "grow", "()[Ljava/lang/Object;"⟩
theorem d_Lst_grow2_0 : decode b_Lst_grow2 0 = .ok (.aload_n 0, 1) := by decide +kernel
theorem d_Lst_grow2_1 : decode b_Lst_grow2 1 = .ok (.aload_n 0, 1) := by decide +kernel
theorem d_Lst_grow2_2 : decode b_Lst_grow2 2 = .ok (.getfield 48, 3) := by decide +kernel
theorem d_Lst_grow2_5 : decode b_Lst_grow2 5 = .ok (.iconst 1, 1) := by decide +kernel
theorem d_Lst_grow2_6 : decode b_Lst_grow2 6 = .ok (.iadd, 1) := by decide +kernel
theorem d_Lst_grow2_7 : decode b_Lst_grow2 7 = .ok (.invokevirtual 69, 3) := by decide +kernel
theorem d_Lst_grow2_10 : decode b_Lst_grow2 10 = .ok (.areturn, 1) := by decide +kernel
theorem q_Lst_grow2 : px_y y_Lst_grow2 0 := by unfold px_y; decide +kernel
set_option maxHeartbeats 4000000 in
set_option maxRecDepth 100000 in
theorem c_al_grow_T (l : Launch) (D : va_G) (cs : Nat → ClassId) (mi : Nat) (hl0 : Nat) (lq : Nat) (lc : Nat) (lf : Nat → Int32) (lg : Nat → Option Nat) (P : va_W)  (g0 : lc ≤ 1000000) (g1 : 10 ≤ lc) (g2 : (lf 1).toInt = (lc : Int)) (hel : ElS P (lf 1) lg) : MgR l y_Lst_grow2 b_Lst_grow2 1 (.array (.object "java/lang/Object")) D cs 4 260 (1) ((4 * lc + 40)) [.ref hl0] [wd_Lst cs hl0 (fun _ => 0) (fun k => if k = 0 then (some lq) else none) lf (fun _ _ => 0) (fun _ _ => none), [(lq, .inl (cs 12, lc, .inr (.inr (.inr (.inr lg)))))], P] (oX (fun A U H => (va_Mi "[Ljava/lang/Object;" mi U)) [wd_Lst cs hl0 (fun _ => 0) (fun k => if k = 0 then (some lq) else none) lf (fun _ _ => 0) (fun _ _ => none), [(lq, .inl (cs 12, lc, .inr (.inr (.inr (.inr lg)))))], P]) (fun v ps => ∃ (lq' lc' : Nat) (lf' : Nat → Int32) (lg' : Nat → Option Nat), (ps.1 = [wd_Lst cs hl0 (fun _ => 0) (fun k => if k = 0 then (some lq') else none) lf' (fun _ _ => 0) (fun _ _ => none), [(lq', .inl (cs 12, lc', .inr (.inr (.inr (.inr lg')))))], P]) ∧ (v = some lq') ∧ ((lf' 1).toInt = (lf 1).toInt) ∧ (10 ≤ lc') ∧ (Cpy lc lg lg') ∧ ((lc : Int) + 1 ≤ (lc' : Int)) ∧ ((lc' : Int) ≤ 2 * (lc : Int) + 10) ∧ (ps.2.1 ≤ 1) ∧ ((ps.2.1 : Int) ≤ (lc' : Int) - (lc : Int)) ∧ ((ps.2.2 : Int) ≤ 4 * ((lc' : Int) - (lc : Int)))) := by
  refine pg_enter (by decide) (Nat.le_of_ble_eq_true rfl) ?_
  intro p e s m below meth c A ls hAe S hr hlk hnm hA hT hX hw hl
  replace hl : lv_has ls 1 [(0, .ref hl0)] := hl
  have cst1 : (1 : Int32).toInt = 1 := rfl
  have hX : (fun A U H => (va_Mi "[Ljava/lang/Object;" mi U)) A s s.heap := by rw [hAe]; exact hX
  have hM := hX
  have hcn : (nI lc).toInt = (lc : Int) := nI_toInt (by omega)
  have hel0 := hel
  refine lv_aload_n S.x S.b d_Lst_grow2_0 rfl (lv_at hl 0 rfl) ?_
  refine lv_aload_n S.x S.b d_Lst_grow2_1 rfl (lv_at hl 0 rfl) ?_
  refine px_get S k_Lst hT hw 0 0 1 (v := .int (lf 1)) rfl rfl rfl (by decide) m1_189 d_Lst_grow2_2 ?_
  refine lv_iconst (v := 1) S.x S.b d_Lst_grow2_5 (by decide) ?_
  refine lv_iadd S.x S.b d_Lst_grow2_6 ?_
  have lr1 := Int32.le_toInt (lf 1)
  have ur1 := Int32.toInt_lt (lf 1)
  refine lv_topi (fun z2 ez2 => ?_)
  have tz2 : z2.toInt = ((lf 1).toInt + (1 : Int) + 2147483648) % 4294967296 - 2147483648 := by rw [ez2]; exact i_add (lf 1) 1
  have lz2 := Int32.le_toInt z2
  have uz2 := Int32.toInt_lt z2
  try replace tz2 : z2.toInt = (lf 1).toInt + (1 : Int) := by omega
  refine pg_callq (pr := []) (px_runV (As := [.int z2]) (rest := []) S (c_al_growI_T l D cs mi hl0 lq lc lf lg P z2  (show lc ≤ 1000000 from by first | exact g0 | omega) (show 10 ≤ lc from by first | exact g1 | omega) (show (lf 1).toInt = (lc : Int) from by first | exact g2 | omega) (show z2.toInt = (lc : Int) + 1 from by first | exact oz_c6a1f2bc4b g2 tz2 | omega) (by first | assumption | exact ElF.els (by assumption)) _ _) hT (pr := []) (pcs := [wd_Lst cs hl0 (fun _ => 0) (fun k => if k = 0 then (some lq) else none) lf (fun _ _ => 0) (fun _ _ => none), [(lq, .inl (cs 12, lc, .inr (.inr (.inr (.inr lg)))))], P]) hw (px_X.tot (oX_call (P := (fun A U H => (va_Mi "[Ljava/lang/Object;" mi U))) (pr := []) oG_M hw hA hM)) (px_recv hT hw 0 0 rfl rfl rfl) m2_21 m2_18 m2_20 ms_1_2 m1_10 q_Lst_grow ⟨Nat.le_of_ble_eq_true rfl, Nat.le_of_ble_eq_true rfl⟩ hl.1 rfl (Nat.le_of_ble_eq_true rfl) d_Lst_grow2_7 ⟨show 0 + (1) ≤ 1 from by omega, show 0 + (4 * lc + 40) ≤ (4 * lc + 40) from (by first | exact oz_fb25b3e9fe | omega)⟩) hw hA (fun v8 p7 k9 n10 H locs hp7 hw => ?_)
  dsimp only at hp7
  obtain ⟨lq3, lc4, lf5, lg6, rfl, rfl, e11, e12, e13, e14, e15, e16, e17, e18⟩ := hp7
  replace e11 : (lf5 1).toInt = (lf 1).toInt := e11
  replace e12 : 10 ≤ lc4 := e12
  replace e13 : Cpy lc lg lg6 := e13
  replace e14 : (lc : Int) + 1 ≤ (lc4 : Int) := e14
  replace e15 : (lc4 : Int) ≤ 2 * (lc : Int) + 10 := e15
  replace e16 : k9 ≤ 1 := e16
  replace e17 : (k9 : Int) ≤ (lc4 : Int) - (lc : Int) := e17
  replace e18 : (n10 : Int) ≤ 4 * ((lc4 : Int) - (lc : Int)) := e18
  replace hw : pw D A s.heap H locs [wd_Lst cs hl0 (fun _ => 0) (fun k => if k = 0 then (some lq3) else none) lf5 (fun _ _ => 0) (fun _ _ => none), [(lq3, .inl (cs 12, lc4, .inr (.inr (.inr (.inr lg6)))))], P] := hw
  exact pg_aret (v := (some lq3)) S hr (Or.inr ⟨_, rfl⟩) hlk hAe hw (show (0 + k9) ≤ 1 from by first | exact oz_0ee4199d15 e16 | omega) (show (0 + n10) ≤ (4 * lc + 40) from by first | exact oz_d3e3da878d e15 e18 | omega) (⟨lq3, lc4, lf5, lg6, rfl, rfl, (show (lf5 1).toInt = (lf 1).toInt from by first | omega | exact Or.inr rfl), (show 10 ≤ lc4 from by first | omega | exact Or.inr rfl), (show Cpy lc lg lg6 from (by first | assumption | exact cpy_rf | exact cpy_0)), (show (lc : Int) + 1 ≤ (lc4 : Int) from by first | omega | exact Or.inr rfl), (show (lc4 : Int) ≤ 2 * (lc : Int) + 10 from by first | omega | exact Or.inr rfl), (show (0 + k9) ≤ 1 from by first | exact oz_0ee4199d15 e16 | omega), (show ((0 + k9) : Int) ≤ (lc4 : Int) - (lc : Int) from by first | exact oz_ddf3b86544 e14 e16 | omega), (show ((0 + n10) : Int) ≤ 4 * ((lc4 : Int) - (lc : Int)) from by first | exact oz_de7e83e532 e18 | omega)⟩) d_Lst_grow2_10
set_option maxHeartbeats 4000000 in
set_option maxRecDepth 100000 in
theorem c_al_grow_F (l : Launch) (D : va_G) (cs : Nat → ClassId) (em : Nat) (mi : Nat) (hl0 : Nat) (lq : Nat) (lf : Nat → Int32) (P : va_W)  (g0 : (lf 1).toInt = 0) (hle : lq = em) : MgR l y_Lst_grow2 b_Lst_grow2 1 (.array (.object "java/lang/Object")) D cs 4 260 (1) ((40)) [.ref hl0] [wd_Lst cs hl0 (fun _ => 0) (fun k => if k = 0 then (some lq) else none) lf (fun _ _ => 0) (fun _ _ => none), P] (oX (fun A U H => (oE A em U H) ∧ (va_Mi "[Ljava/lang/Object;" mi U)) [wd_Lst cs hl0 (fun _ => 0) (fun k => if k = 0 then (some lq) else none) lf (fun _ _ => 0) (fun _ _ => none), P]) (fun v ps => ∃ (lq' lc' : Nat) (lf' : Nat → Int32) (lg' : Nat → Option Nat), (ps.1 = [wd_Lst cs hl0 (fun _ => 0) (fun k => if k = 0 then (some lq') else none) lf' (fun _ _ => 0) (fun _ _ => none), [(lq', .inl (cs 12, lc', .inr (.inr (.inr (.inr lg')))))], P]) ∧ (v = some lq') ∧ ((lf' 1).toInt = (lf 1).toInt) ∧ (10 ≤ lc') ∧ (Cpy 0 (fun _ => none) lg') ∧ ((0 : Int) + 1 ≤ (lc' : Int)) ∧ ((lc' : Int) ≤ 2 * (0 : Int) + 10) ∧ (ps.2.1 ≤ 1) ∧ ((ps.2.1 : Int) ≤ (lc' : Int) - (0 : Int)) ∧ ((ps.2.2 : Int) ≤ 4 * ((lc' : Int) - (0 : Int)))) := by
  refine pg_enter (by decide) (Nat.le_of_ble_eq_true rfl) ?_
  intro p e s m below meth c A ls hAe S hr hlk hnm hA hT hX hw hl
  replace hl : lv_has ls 1 [(0, .ref hl0)] := hl
  have cst1 : (1 : Int32).toInt = 1 := rfl
  have hX : (fun A U H => (oE A em U H) ∧ (va_Mi "[Ljava/lang/Object;" mi U)) A s s.heap := by rw [hAe]; exact hX
  obtain ⟨hE, hM⟩ := hX
  subst hle
  refine lv_aload_n S.x S.b d_Lst_grow2_0 rfl (lv_at hl 0 rfl) ?_
  refine lv_aload_n S.x S.b d_Lst_grow2_1 rfl (lv_at hl 0 rfl) ?_
  refine px_get S k_Lst hT hw 0 0 1 (v := .int (lf 1)) rfl rfl rfl (by decide) m1_189 d_Lst_grow2_2 ?_
  refine lv_iconst (v := 1) S.x S.b d_Lst_grow2_5 (by decide) ?_
  refine lv_iadd S.x S.b d_Lst_grow2_6 ?_
  have lr1 := Int32.le_toInt (lf 1)
  have ur1 := Int32.toInt_lt (lf 1)
  refine lv_topi (fun z2 ez2 => ?_)
  have tz2 : z2.toInt = ((lf 1).toInt + (1 : Int) + 2147483648) % 4294967296 - 2147483648 := by rw [ez2]; exact i_add (lf 1) 1
  have lz2 := Int32.le_toInt z2
  have uz2 := Int32.toInt_lt z2
  try replace tz2 : z2.toInt = (lf 1).toInt + (1 : Int) := by omega
  refine pg_callq (pr := []) (px_runV (As := [.int z2]) (rest := []) S (c_al_growI_F l D cs lq mi hl0 lq lf P z2  (show z2.toInt = 1 from by first | exact oz_763e4f86fc tz2 g0 | omega) rfl _ _) hT (pr := []) (pcs := [wd_Lst cs hl0 (fun _ => 0) (fun k => if k = 0 then (some lq) else none) lf (fun _ _ => 0) (fun _ _ => none), P]) hw (px_X.tot (oX_call (P := (fun A U H => (oE A lq U H) ∧ (va_Mi "[Ljava/lang/Object;" mi U))) (pr := []) (oG_and oG_E oG_M) hw hA ⟨hE, hM⟩)) (px_recv hT hw 0 0 rfl rfl rfl) m2_21 m2_18 m2_20 ms_1_2 m1_10 q_Lst_grow ⟨Nat.le_of_ble_eq_true rfl, Nat.le_of_ble_eq_true rfl⟩ hl.1 rfl (Nat.le_of_ble_eq_true rfl) d_Lst_grow2_7 ⟨show 0 + (1) ≤ 1 from by omega, show 0 + (40) ≤ (40) from by omega⟩) hw hA (fun v8 p7 k9 n10 H locs hp7 hw => ?_)
  dsimp only at hp7
  obtain ⟨lq3, lc4, lf5, lg6, rfl, rfl, e11, e12, e13, e14, e15, e16, e17, e18⟩ := hp7
  replace e11 : (lf5 1).toInt = (lf 1).toInt := e11
  replace e12 : 10 ≤ lc4 := e12
  replace e13 : Cpy 0 (fun _ => none) lg6 := e13
  replace e14 : (0 : Int) + 1 ≤ (lc4 : Int) := e14
  replace e15 : (lc4 : Int) ≤ 2 * (0 : Int) + 10 := e15
  replace e16 : k9 ≤ 1 := e16
  replace e17 : (k9 : Int) ≤ (lc4 : Int) - (0 : Int) := e17
  replace e18 : (n10 : Int) ≤ 4 * ((lc4 : Int) - (0 : Int)) := e18
  replace hw : pw D A s.heap H locs [wd_Lst cs hl0 (fun _ => 0) (fun k => if k = 0 then (some lq3) else none) lf5 (fun _ _ => 0) (fun _ _ => none), [(lq3, .inl (cs 12, lc4, .inr (.inr (.inr (.inr lg6)))))], P] := hw
  exact pg_aret (v := (some lq3)) S hr (Or.inr ⟨_, rfl⟩) hlk hAe hw (show (0 + k9) ≤ 1 from by first | exact oz_0ee4199d15 e16 | omega) (show (0 + n10) ≤ (40) from by first | exact oz_763d747839 e18 e15 | omega) (⟨lq3, lc4, lf5, lg6, rfl, rfl, (show (lf5 1).toInt = (lf 1).toInt from by first | omega | exact Or.inr rfl), (show 10 ≤ lc4 from by first | omega | exact Or.inr rfl), (show Cpy 0 (fun _ => none) lg6 from (by first | assumption | exact cpy_rf | exact cpy_0)), (show (0 : Int) + 1 ≤ (lc4 : Int) from by first | omega | exact Or.inr rfl), (show (lc4 : Int) ≤ 2 * (0 : Int) + 10 from by first | omega | exact Or.inr rfl), (show (0 + k9) ≤ 1 from by first | exact oz_0ee4199d15 e16 | omega), (show ((0 + k9) : Int) ≤ (lc4 : Int) - (0 : Int) from by first | exact oz_df7b49c329 e12 e16 | omega), (show ((0 + n10) : Int) ≤ 4 * ((lc4 : Int) - (0 : Int)) from by first | exact oz_1506aa982e e18 | omega)⟩) d_Lst_grow2_10
abbrev b_Lst_add : ByteArray := prog_39_method_24_code
def y_Lst_add : MethodName := ⟨"java/util/ArrayList", "add", "(Ljava/lang/Object;[Ljava/lang/Object;I)V"⟩
theorem d_Lst_add_0 : decode b_Lst_add 0 = .ok (.iload_n 3, 1) := by decide +kernel
theorem d_Lst_add_1 : decode b_Lst_add 1 = .ok (.aload_n 2, 1) := by decide +kernel
theorem d_Lst_add_2 : decode b_Lst_add 2 = .ok (.arraylength, 1) := by decide +kernel
theorem d_Lst_add_3 : decode b_Lst_add 3 = .ok (.if_icmp .ne 8, 3) := by decide +kernel
theorem d_Lst_add_6 : decode b_Lst_add 6 = .ok (.aload_n 0, 1) := by decide +kernel
theorem d_Lst_add_7 : decode b_Lst_add 7 = .ok (.invokevirtual 129, 3) := by decide +kernel
theorem d_Lst_add_10 : decode b_Lst_add 10 = .ok (.astore_n 2, 1) := by decide +kernel
theorem d_Lst_add_11 : decode b_Lst_add 11 = .ok (.aload_n 2, 1) := by decide +kernel
theorem d_Lst_add_12 : decode b_Lst_add 12 = .ok (.iload_n 3, 1) := by decide +kernel
theorem d_Lst_add_13 : decode b_Lst_add 13 = .ok (.aload_n 1, 1) := by decide +kernel
theorem d_Lst_add_14 : decode b_Lst_add 14 = .ok (.aastore, 1) := by decide +kernel
theorem d_Lst_add_15 : decode b_Lst_add 15 = .ok (.aload_n 0, 1) := by decide +kernel
theorem d_Lst_add_16 : decode b_Lst_add 16 = .ok (.iload_n 3, 1) := by decide +kernel
theorem d_Lst_add_17 : decode b_Lst_add 17 = .ok (.iconst 1, 1) := by decide +kernel
theorem d_Lst_add_18 : decode b_Lst_add 18 = .ok (.iadd, 1) := by decide +kernel
theorem d_Lst_add_19 : decode b_Lst_add 19 = .ok (.putfield 48, 3) := by decide +kernel
theorem d_Lst_add_22 : decode b_Lst_add 22 = .ok (.return_, 1) := by decide +kernel
theorem q_Lst_add : px_y y_Lst_add 3 := by unfold px_y; decide +kernel
set_option maxHeartbeats 4000000 in
set_option maxRecDepth 100000 in
theorem c_al_add3_T (l : Launch) (D : va_G) (cs : Nat → ClassId) (mi : Nat) (hl0 : Nat) (lq : Nat) (lc : Nat) (lf : Nat → Int32) (lg : Nat → Option Nat) (P : va_W) (p0 : Int32) (fa : Nat) (g0 : lc ≤ 1000000) (g1 : 10 ≤ lc) (g2 : 0 ≤ (lf 1).toInt) (g3 : (lf 1).toInt ≤ (lc : Int)) (g4 : p0.toInt = (lf 1).toInt) (hel : ElS P (lf 1) lg) (hsy : Sy P (some fa)) : MgV l y_Lst_add b_Lst_add 4 D cs 5 330 (1) ((4 * lc + 40)) [.ref hl0, .ref fa, .ref lq, .int p0] [wd_Lst cs hl0 (fun _ => 0) (fun k => if k = 0 then (some lq) else none) lf (fun _ _ => 0) (fun _ _ => none), [(lq, .inl (cs 12, lc, .inr (.inr (.inr (.inr lg)))))], P] (oX (fun A U H => (va_Mi "[Ljava/lang/Object;" mi U)) [wd_Lst cs hl0 (fun _ => 0) (fun k => if k = 0 then (some lq) else none) lf (fun _ _ => 0) (fun _ _ => none), [(lq, .inl (cs 12, lc, .inr (.inr (.inr (.inr lg)))))], P]) (fun ps => ∃ (lq' lc' : Nat) (lf' : Nat → Int32) (lg' : Nat → Option Nat), (ps.1 = [wd_Lst cs hl0 (fun _ => 0) (fun k => if k = 0 then (some lq') else none) lf' (fun _ _ => 0) (fun _ _ => none), [(lq', .inl (cs 12, lc', .inr (.inr (.inr (.inr lg')))))], P]) ∧ ((lf' 1).toInt = (lf 1).toInt + 1) ∧ ((lf' 1).toInt ≤ (lc' : Int)) ∧ (AddL (lf 1) lg lg' fa) ∧ ((lc : Int) ≤ (lc' : Int)) ∧ ((lc' : Int) ≤ 2 * (lc : Int) + 10) ∧ (10 ≤ lc') ∧ (Lcap lc (lf 1) lc') ∧ (ps.2.1 ≤ 1) ∧ ((ps.2.1 : Int) ≤ (lc' : Int) - (lc : Int)) ∧ ((ps.2.2 : Int) ≤ 4 * ((lc' : Int) - (lc : Int)))) := by
  refine pg_enter (by decide) (Nat.le_of_ble_eq_true rfl) ?_
  intro p e s m below meth c A ls hAe S hr hlk hnm hA hT hX hw hl
  replace hl : lv_has ls 4 [(0, .ref hl0), (1, .ref fa), (2, .ref lq), (3, .int p0)] := hl
  have lp0 := Int32.le_toInt p0
  have up0 := Int32.toInt_lt p0
  have cst1 : (1 : Int32).toInt = 1 := rfl
  have hX : (fun A U H => (va_Mi "[Ljava/lang/Object;" mi U)) A s s.heap := by rw [hAe]; exact hX
  have hM := hX
  have hcn : (nI lc).toInt = (lc : Int) := nI_toInt (by omega)
  have hel0 := hel
  refine lv_iload_n S.x S.b d_Lst_add_0 rfl (lv_at hl 3 rfl) ?_
  refine lv_aload_n S.x S.b d_Lst_add_1 rfl (lv_at hl 2 rfl) ?_
  refine px_len S hT hw 1 0 12 rfl rfl rfl (v := (nI lc)) rfl d_Lst_add_2 ?_
  refine lv_icmp_ne (tgt := 11) S.x S.b d_Lst_add_3 (by decide) (fun c1 => ?_) (fun c1 => ?_)
  · have nc1 : ¬ p0.toInt = (nI lc).toInt := mt (i_eq (x := p0) (y := (nI lc))).mpr c1
    refine lv_aload_n S.x S.b d_Lst_add_11 rfl (lv_at hl 2 rfl) ?_
    refine lv_iload_n S.x S.b d_Lst_add_12 rfl (lv_at hl 3 rfl) ?_
    refine lv_aload_n S.x S.b d_Lst_add_13 rfl (lv_at hl 1 rfl) ?_
    obtain ⟨j2, s3, hj4⟩ := (show Sy P (some fa) by first | assumption | exact Fy.sy (by assumption)).at
    refine px_astO S hT hw 1 0 12 2 j2 (f := lg) rfl rfl rfl m14_239n rfl hj4 rfl (x := p0) (vp_in_iff.mpr (by constructor <;> omega)) d_Lst_add_14 (w' := [(lq, .inl (cs 12, lc, .inr (.inr (.inr (.inr (va_up lg p0.toNatClampNeg (some fa)))))))]) (ps' := [wd_Lst cs hl0 (fun _ => 0) (fun k => if k = 0 then (some lq) else none) lf (fun _ _ => 0) (fun _ _ => none), [(lq, .inl (cs 12, lc, .inr (.inr (.inr (.inr (va_up lg p0.toNatClampNeg (some fa)))))))], P]) rfl rfl (fun H locs hw => ?_)
    refine lv_aload_n S.x S.b d_Lst_add_15 rfl (lv_at hl 0 rfl) ?_
    refine lv_iload_n S.x S.b d_Lst_add_16 rfl (lv_at hl 3 rfl) ?_
    refine lv_iconst (v := 1) S.x S.b d_Lst_add_17 (by decide) ?_
    refine lv_iadd S.x S.b d_Lst_add_18 ?_
    refine lv_topi (fun z5 ez5 => ?_)
    have tz5 : z5.toInt = (p0.toInt + (1 : Int) + 2147483648) % 4294967296 - 2147483648 := by rw [ez5]; exact i_add p0 1
    have lz5 := Int32.le_toInt z5
    have uz5 := Int32.toInt_lt z5
    try replace tz5 : z5.toInt = p0.toInt + (1 : Int) := by omega
    refine px_put S k_Lst hT hw 0 0 1 rfl rfl (by decide) m1_189 rfl rfl rfl (Nat.le_of_ble_eq_true rfl) d_Lst_add_19 (w' := wd_Lst cs hl0 (fun _ => 0) (fun k => if k = 0 then (some lq) else none) (upd lf 1 z5) (fun _ _ => 0) (fun _ _ => none)) (ps' := [wd_Lst cs hl0 (fun _ => 0) (fun k => if k = 0 then (some lq) else none) (upd lf 1 z5) (fun _ _ => 0) (fun _ _ => none), [(lq, .inl (cs 12, lc, .inr (.inr (.inr (.inr (va_up lg p0.toNatClampNeg (some fa)))))))], P]) rfl rfl (fun H locs hw => ?_)
    exact pg_vret S hr hlk hAe hw (show 0 ≤ 1 from by first | decide | omega) (show 0 ≤ (4 * lc + 40) from by first | exact oz_1ae9abb52d | omega) (⟨lq, lc, (upd lf 1 z5), (va_up lg p0.toNatClampNeg (some fa)), rfl, (show z5.toInt = (lf 1).toInt + 1 from by first | omega | exact Or.inr rfl), (show z5.toInt ≤ (lc : Int) from by first | omega | exact Or.inr rfl), (show AddL (lf 1) lg (va_up lg p0.toNatClampNeg (some fa)) fa from (by first | assumption | exact addl_mk (m := lc) (by first | assumption | exact cpy_rf) (by omega) (by omega) (by omega) | exact addl_mk (m := 0) cpy_0 (by omega) (by omega) (by omega))), (show (lc : Int) ≤ (lc : Int) from by first | omega | exact Or.inr rfl), (show (lc : Int) ≤ 2 * (lc : Int) + 10 from by first | omega | exact Or.inr rfl), (show 10 ≤ lc from by first | omega | exact Or.inr rfl), (show Lcap lc (lf 1) lc from (by first | assumption | exact Or.inl rfl | exact Or.inr (by omega))), (show 0 ≤ 1 from by first | decide | omega), (show (0 : Int) ≤ (lc : Int) - (lc : Int) from by first | exact oz_125ffe3242 | omega), (show (0 : Int) ≤ 4 * ((lc : Int) - (lc : Int)) from by first | exact oz_4927565985 | omega)⟩) d_Lst_add_22
  · have nc1 : p0.toInt = (nI lc).toInt := (i_eq (x := p0) (y := (nI lc))).mp c1
    refine lv_aload_n S.x S.b d_Lst_add_6 rfl (lv_at hl 0 rfl) ?_
    refine pg_callq (pr := []) (px_runV (As := []) (rest := []) S (c_al_grow_T l D cs mi hl0 lq lc lf lg P   (show lc ≤ 1000000 from by first | exact g0 | omega) (show 10 ≤ lc from by first | exact g1 | omega) (show (lf 1).toInt = (lc : Int) from by first | exact oz_5ff40b9674 g3 g4 hcn nc1 | omega) (by first | assumption | exact ElF.els (by assumption)) _ _) hT (pr := []) (pcs := [wd_Lst cs hl0 (fun _ => 0) (fun k => if k = 0 then (some lq) else none) lf (fun _ _ => 0) (fun _ _ => none), [(lq, .inl (cs 12, lc, .inr (.inr (.inr (.inr lg)))))], P]) hw (px_X.tot (oX_call (P := (fun A U H => (va_Mi "[Ljava/lang/Object;" mi U))) (pr := []) oG_M hw hA hM)) (px_recv hT hw 0 0 rfl rfl rfl) m2_17 m2_14 m2_16 ms_1_1 m1_10 q_Lst_grow2 ⟨Nat.le_of_ble_eq_true rfl, Nat.le_of_ble_eq_true rfl⟩ hl.1 rfl (Nat.le_of_ble_eq_true rfl) d_Lst_add_7 ⟨show 0 + (1) ≤ 1 from by omega, show 0 + (4 * lc + 40) ≤ (4 * lc + 40) from (by first | exact oz_fb25b3e9fe | omega)⟩) hw hA (fun v11 p10 k12 n13 H locs hp10 hw => ?_)
    dsimp only at hp10
    obtain ⟨lq6, lc7, lf8, lg9, rfl, rfl, e14, e15, e16, e17, e18, e19, e20, e21⟩ := hp10
    replace e14 : (lf8 1).toInt = (lf 1).toInt := e14
    replace e15 : 10 ≤ lc7 := e15
    replace e16 : Cpy lc lg lg9 := e16
    replace e17 : (lc : Int) + 1 ≤ (lc7 : Int) := e17
    replace e18 : (lc7 : Int) ≤ 2 * (lc : Int) + 10 := e18
    replace e19 : k12 ≤ 1 := e19
    replace e20 : (k12 : Int) ≤ (lc7 : Int) - (lc : Int) := e20
    replace e21 : (n13 : Int) ≤ 4 * ((lc7 : Int) - (lc : Int)) := e21
    replace hw : pw D A s.heap H locs [wd_Lst cs hl0 (fun _ => 0) (fun k => if k = 0 then (some lq6) else none) lf8 (fun _ _ => 0) (fun _ _ => none), [(lq6, .inl (cs 12, lc7, .inr (.inr (.inr (.inr lg9)))))], P] := hw
    refine lv_astore_n (lv' := [(2, .ref lq6), (0, .ref hl0), (1, .ref fa), (3, .int p0)]) S.x S.b d_Lst_add_10 rfl hl (by decide) rfl (fun ls hl => ?_)
    refine lv_aload_n S.x S.b d_Lst_add_11 rfl (lv_at hl 0 rfl) ?_
    refine lv_iload_n S.x S.b d_Lst_add_12 rfl (lv_at hl 3 rfl) ?_
    refine lv_aload_n S.x S.b d_Lst_add_13 rfl (lv_at hl 2 rfl) ?_
    obtain ⟨j22, s23, hj24⟩ := (show Sy P (some fa) by first | assumption | exact Fy.sy (by assumption)).at
    refine px_astO S hT hw 1 0 12 2 j22 (f := lg9) rfl rfl rfl m14_239n rfl hj24 rfl (x := p0) (vp_in_iff.mpr (by constructor <;> omega)) d_Lst_add_14 (w' := [(lq6, .inl (cs 12, lc7, .inr (.inr (.inr (.inr (va_up lg9 p0.toNatClampNeg (some fa)))))))]) (ps' := [wd_Lst cs hl0 (fun _ => 0) (fun k => if k = 0 then (some lq6) else none) lf8 (fun _ _ => 0) (fun _ _ => none), [(lq6, .inl (cs 12, lc7, .inr (.inr (.inr (.inr (va_up lg9 p0.toNatClampNeg (some fa)))))))], P]) rfl rfl (fun H locs hw => ?_)
    refine lv_aload_n S.x S.b d_Lst_add_15 rfl (lv_at hl 1 rfl) ?_
    refine lv_iload_n S.x S.b d_Lst_add_16 rfl (lv_at hl 3 rfl) ?_
    refine lv_iconst (v := 1) S.x S.b d_Lst_add_17 (by decide) ?_
    refine lv_iadd S.x S.b d_Lst_add_18 ?_
    refine lv_topi (fun z25 ez25 => ?_)
    have tz25 : z25.toInt = (p0.toInt + (1 : Int) + 2147483648) % 4294967296 - 2147483648 := by rw [ez25]; exact i_add p0 1
    have lz25 := Int32.le_toInt z25
    have uz25 := Int32.toInt_lt z25
    try replace tz25 : z25.toInt = p0.toInt + (1 : Int) := by omega
    refine px_put S k_Lst hT hw 0 0 1 rfl rfl (by decide) m1_189 rfl rfl rfl (Nat.le_of_ble_eq_true rfl) d_Lst_add_19 (w' := wd_Lst cs hl0 (fun _ => 0) (fun k => if k = 0 then (some lq6) else none) (upd lf8 1 z25) (fun _ _ => 0) (fun _ _ => none)) (ps' := [wd_Lst cs hl0 (fun _ => 0) (fun k => if k = 0 then (some lq6) else none) (upd lf8 1 z25) (fun _ _ => 0) (fun _ _ => none), [(lq6, .inl (cs 12, lc7, .inr (.inr (.inr (.inr (va_up lg9 p0.toNatClampNeg (some fa)))))))], P]) rfl rfl (fun H locs hw => ?_)
    exact pg_vret S hr hlk hAe hw (show (0 + k12) ≤ 1 from by first | exact oz_0ee4199d15 e19 | omega) (show (0 + n13) ≤ (4 * lc + 40) from by first | exact oz_d3e3da878d e18 e21 | omega) (⟨lq6, lc7, (upd lf8 1 z25), (va_up lg9 p0.toNatClampNeg (some fa)), rfl, (show z25.toInt = (lf 1).toInt + 1 from by first | omega | exact Or.inr rfl), (show z25.toInt ≤ (lc7 : Int) from by first | omega | exact Or.inr rfl), (show AddL (lf 1) lg (va_up lg9 p0.toNatClampNeg (some fa)) fa from (by first | assumption | exact addl_mk (m := lc) (by first | assumption | exact cpy_rf) (by omega) (by omega) (by omega) | exact addl_mk (m := 0) cpy_0 (by omega) (by omega) (by omega))), (show (lc : Int) ≤ (lc7 : Int) from by first | omega | exact Or.inr rfl), (show (lc7 : Int) ≤ 2 * (lc : Int) + 10 from by first | omega | exact Or.inr rfl), (show 10 ≤ lc7 from by first | omega | exact Or.inr rfl), (show Lcap lc (lf 1) lc7 from (by first | assumption | exact Or.inl rfl | exact Or.inr (by omega))), (show (0 + k12) ≤ 1 from by first | exact oz_0ee4199d15 e19 | omega), (show ((0 + k12) : Int) ≤ (lc7 : Int) - (lc : Int) from by first | exact oz_ddf3b86544 e17 e19 | omega), (show ((0 + n13) : Int) ≤ 4 * ((lc7 : Int) - (lc : Int)) from by first | exact oz_de7e83e532 e21 | omega)⟩) d_Lst_add_22
set_option maxHeartbeats 4000000 in
set_option maxRecDepth 100000 in
theorem c_al_add3_F (l : Launch) (D : va_G) (cs : Nat → ClassId) (em : Nat) (mi : Nat) (hl0 : Nat) (lq : Nat) (lf : Nat → Int32) (P : va_W) (p0 : Int32) (fa : Nat) (g0 : (lf 1).toInt = 0) (g1 : p0.toInt = 0) (hle : lq = em) (hsy : Sy P (some fa)) : MgV l y_Lst_add b_Lst_add 4 D cs 5 330 (1) ((40)) [.ref hl0, .ref fa, .ref lq, .int p0] [wd_Lst cs hl0 (fun _ => 0) (fun k => if k = 0 then (some lq) else none) lf (fun _ _ => 0) (fun _ _ => none), P] (oX (fun A U H => (oE A em U H) ∧ (va_Mi "[Ljava/lang/Object;" mi U)) [wd_Lst cs hl0 (fun _ => 0) (fun k => if k = 0 then (some lq) else none) lf (fun _ _ => 0) (fun _ _ => none), P]) (fun ps => ∃ (lq' lc' : Nat) (lf' : Nat → Int32) (lg' : Nat → Option Nat), (ps.1 = [wd_Lst cs hl0 (fun _ => 0) (fun k => if k = 0 then (some lq') else none) lf' (fun _ _ => 0) (fun _ _ => none), [(lq', .inl (cs 12, lc', .inr (.inr (.inr (.inr lg')))))], P]) ∧ ((lf' 1).toInt = (lf 1).toInt + 1) ∧ ((lf' 1).toInt ≤ (lc' : Int)) ∧ (AddL (lf 1) (fun _ => none) lg' fa) ∧ ((0 : Int) ≤ (lc' : Int)) ∧ ((lc' : Int) ≤ 2 * (0 : Int) + 10) ∧ (10 ≤ lc') ∧ (Lcap 0 (lf 1) lc') ∧ (ps.2.1 ≤ 1) ∧ ((ps.2.1 : Int) ≤ (lc' : Int) - (0 : Int)) ∧ ((ps.2.2 : Int) ≤ 4 * ((lc' : Int) - (0 : Int)))) := by
  refine pg_enter (by decide) (Nat.le_of_ble_eq_true rfl) ?_
  intro p e s m below meth c A ls hAe S hr hlk hnm hA hT hX hw hl
  replace hl : lv_has ls 4 [(0, .ref hl0), (1, .ref fa), (2, .ref lq), (3, .int p0)] := hl
  have lp0 := Int32.le_toInt p0
  have up0 := Int32.toInt_lt p0
  have cst1 : (1 : Int32).toInt = 1 := rfl
  have hX : (fun A U H => (oE A em U H) ∧ (va_Mi "[Ljava/lang/Object;" mi U)) A s s.heap := by rw [hAe]; exact hX
  obtain ⟨hE, hM⟩ := hX
  subst hle
  refine lv_iload_n S.x S.b d_Lst_add_0 rfl (lv_at hl 3 rfl) ?_
  refine lv_aload_n S.x S.b d_Lst_add_1 rfl (lv_at hl 2 rfl) ?_
  refine va_tlen S.x S.b hE.2 hw.2.2 (v := 0) rfl d_Lst_add_2 ?_
  refine lv_icmp_ne (tgt := 11) S.x S.b d_Lst_add_3 (by decide) (fun c1 => ?_) (fun c1 => ?_)
  · have nc1 : ¬ p0.toInt = (0 : Int) := mt (i_eq (x := p0) (y := 0)).mpr c1
    exfalso
    omega
  · have nc1 : p0.toInt = (0 : Int) := (i_eq (x := p0) (y := 0)).mp c1
    refine lv_aload_n S.x S.b d_Lst_add_6 rfl (lv_at hl 0 rfl) ?_
    refine pg_callq (pr := []) (px_runV (As := []) (rest := []) S (c_al_grow_F l D cs lq mi hl0 lq lf P   (show (lf 1).toInt = 0 from by first | exact g0 | omega) rfl _ _) hT (pr := []) (pcs := [wd_Lst cs hl0 (fun _ => 0) (fun k => if k = 0 then (some lq) else none) lf (fun _ _ => 0) (fun _ _ => none), P]) hw (px_X.tot (oX_call (P := (fun A U H => (oE A lq U H) ∧ (va_Mi "[Ljava/lang/Object;" mi U))) (pr := []) (oG_and oG_E oG_M) hw hA ⟨hE, hM⟩)) (px_recv hT hw 0 0 rfl rfl rfl) m2_17 m2_14 m2_16 ms_1_1 m1_10 q_Lst_grow2 ⟨Nat.le_of_ble_eq_true rfl, Nat.le_of_ble_eq_true rfl⟩ hl.1 rfl (Nat.le_of_ble_eq_true rfl) d_Lst_add_7 ⟨show 0 + (1) ≤ 1 from by omega, show 0 + (40) ≤ (40) from by omega⟩) hw hA (fun v7 p6 k8 n9 H locs hp6 hw => ?_)
    dsimp only at hp6
    obtain ⟨lq2, lc3, lf4, lg5, rfl, rfl, e10, e11, e12, e13, e14, e15, e16, e17⟩ := hp6
    replace e10 : (lf4 1).toInt = (lf 1).toInt := e10
    replace e11 : 10 ≤ lc3 := e11
    replace e12 : Cpy 0 (fun _ => none) lg5 := e12
    replace e13 : (0 : Int) + 1 ≤ (lc3 : Int) := e13
    replace e14 : (lc3 : Int) ≤ 2 * (0 : Int) + 10 := e14
    replace e15 : k8 ≤ 1 := e15
    replace e16 : (k8 : Int) ≤ (lc3 : Int) - (0 : Int) := e16
    replace e17 : (n9 : Int) ≤ 4 * ((lc3 : Int) - (0 : Int)) := e17
    replace hw : pw D A s.heap H locs [wd_Lst cs hl0 (fun _ => 0) (fun k => if k = 0 then (some lq2) else none) lf4 (fun _ _ => 0) (fun _ _ => none), [(lq2, .inl (cs 12, lc3, .inr (.inr (.inr (.inr lg5)))))], P] := hw
    refine lv_astore_n (lv' := [(2, .ref lq2), (0, .ref hl0), (1, .ref fa), (3, .int p0)]) S.x S.b d_Lst_add_10 rfl hl (by decide) rfl (fun ls hl => ?_)
    refine lv_aload_n S.x S.b d_Lst_add_11 rfl (lv_at hl 0 rfl) ?_
    refine lv_iload_n S.x S.b d_Lst_add_12 rfl (lv_at hl 3 rfl) ?_
    refine lv_aload_n S.x S.b d_Lst_add_13 rfl (lv_at hl 2 rfl) ?_
    obtain ⟨j18, s19, hj20⟩ := (show Sy P (some fa) by first | assumption | exact Fy.sy (by assumption)).at
    refine px_astO S hT hw 1 0 12 2 j18 (f := lg5) rfl rfl rfl m14_239n rfl hj20 rfl (x := p0) (vp_in_iff.mpr (by constructor <;> omega)) d_Lst_add_14 (w' := [(lq2, .inl (cs 12, lc3, .inr (.inr (.inr (.inr (va_up lg5 p0.toNatClampNeg (some fa)))))))]) (ps' := [wd_Lst cs hl0 (fun _ => 0) (fun k => if k = 0 then (some lq2) else none) lf4 (fun _ _ => 0) (fun _ _ => none), [(lq2, .inl (cs 12, lc3, .inr (.inr (.inr (.inr (va_up lg5 p0.toNatClampNeg (some fa)))))))], P]) rfl rfl (fun H locs hw => ?_)
    refine lv_aload_n S.x S.b d_Lst_add_15 rfl (lv_at hl 1 rfl) ?_
    refine lv_iload_n S.x S.b d_Lst_add_16 rfl (lv_at hl 3 rfl) ?_
    refine lv_iconst (v := 1) S.x S.b d_Lst_add_17 (by decide) ?_
    refine lv_iadd S.x S.b d_Lst_add_18 ?_
    refine lv_topi (fun z21 ez21 => ?_)
    have tz21 : z21.toInt = (p0.toInt + (1 : Int) + 2147483648) % 4294967296 - 2147483648 := by rw [ez21]; exact i_add p0 1
    have lz21 := Int32.le_toInt z21
    have uz21 := Int32.toInt_lt z21
    try replace tz21 : z21.toInt = p0.toInt + (1 : Int) := by omega
    refine px_put S k_Lst hT hw 0 0 1 rfl rfl (by decide) m1_189 rfl rfl rfl (Nat.le_of_ble_eq_true rfl) d_Lst_add_19 (w' := wd_Lst cs hl0 (fun _ => 0) (fun k => if k = 0 then (some lq2) else none) (upd lf4 1 z21) (fun _ _ => 0) (fun _ _ => none)) (ps' := [wd_Lst cs hl0 (fun _ => 0) (fun k => if k = 0 then (some lq2) else none) (upd lf4 1 z21) (fun _ _ => 0) (fun _ _ => none), [(lq2, .inl (cs 12, lc3, .inr (.inr (.inr (.inr (va_up lg5 p0.toNatClampNeg (some fa)))))))], P]) rfl rfl (fun H locs hw => ?_)
    exact pg_vret S hr hlk hAe hw (show (0 + k8) ≤ 1 from by first | exact oz_0ee4199d15 e15 | omega) (show (0 + n9) ≤ (40) from by first | exact oz_763d747839 e17 e14 | omega) (⟨lq2, lc3, (upd lf4 1 z21), (va_up lg5 p0.toNatClampNeg (some fa)), rfl, (show z21.toInt = (lf 1).toInt + 1 from by first | omega | exact Or.inr rfl), (show z21.toInt ≤ (lc3 : Int) from by first | omega | exact Or.inr rfl), (show AddL (lf 1) (fun _ => none) (va_up lg5 p0.toNatClampNeg (some fa)) fa from (by first | assumption | exact addl_mk (m := lc) (by first | assumption | exact cpy_rf) (by omega) (by omega) (by omega) | exact addl_mk (m := 0) cpy_0 (by omega) (by omega) (by omega))), (show (0 : Int) ≤ (lc3 : Int) from by first | omega | exact Or.inr rfl), (show (lc3 : Int) ≤ 2 * (0 : Int) + 10 from by first | omega | exact Or.inr rfl), (show 10 ≤ lc3 from by first | omega | exact Or.inr rfl), (show Lcap 0 (lf 1) lc3 from (by first | assumption | exact Or.inl rfl | exact Or.inr (by omega))), (show (0 + k8) ≤ 1 from by first | exact oz_0ee4199d15 e15 | omega), (show ((0 + k8) : Int) ≤ (lc3 : Int) - (0 : Int) from by first | exact oz_df7b49c329 e11 e15 | omega), (show ((0 + n9) : Int) ≤ 4 * ((lc3 : Int) - (0 : Int)) from by first | exact oz_1506aa982e e17 | omega)⟩) d_Lst_add_22
abbrev b_Lst_add2 : ByteArray := prog_39_method_25_code
def y_Lst_add2 : MethodName := ⟨"java/util/ArrayList", "add", "(Ljava/lang/Object;)Z"⟩
theorem d_Lst_add2_0 : decode b_Lst_add2 0 = .ok (.aload_n 0, 1) := by decide +kernel
theorem d_Lst_add2_1 : decode b_Lst_add2 1 = .ok (.dup, 1) := by decide +kernel
theorem d_Lst_add2_2 : decode b_Lst_add2 2 = .ok (.getfield 63, 3) := by decide +kernel
theorem d_Lst_add2_5 : decode b_Lst_add2 5 = .ok (.iconst 1, 1) := by decide +kernel
theorem d_Lst_add2_6 : decode b_Lst_add2 6 = .ok (.iadd, 1) := by decide +kernel
theorem d_Lst_add2_7 : decode b_Lst_add2 7 = .ok (.putfield 63, 3) := by decide +kernel
theorem d_Lst_add2_10 : decode b_Lst_add2 10 = .ok (.aload_n 0, 1) := by decide +kernel
theorem d_Lst_add2_11 : decode b_Lst_add2 11 = .ok (.aload_n 1, 1) := by decide +kernel
theorem d_Lst_add2_12 : decode b_Lst_add2 12 = .ok (.aload_n 0, 1) := by decide +kernel
theorem d_Lst_add2_13 : decode b_Lst_add2 13 = .ok (.getfield 9, 3) := by decide +kernel
theorem d_Lst_add2_16 : decode b_Lst_add2 16 = .ok (.aload_n 0, 1) := by decide +kernel
theorem d_Lst_add2_17 : decode b_Lst_add2 17 = .ok (.getfield 48, 3) := by decide +kernel
theorem d_Lst_add2_20 : decode b_Lst_add2 20 = .ok (.invokevirtual 131, 3) := by decide +kernel
theorem d_Lst_add2_23 : decode b_Lst_add2 23 = .ok (.iconst 1, 1) := by decide +kernel
theorem d_Lst_add2_24 : decode b_Lst_add2 24 = .ok (.ireturn, 1) := by decide +kernel
theorem q_Lst_add2 : px_y y_Lst_add2 1 := by unfold px_y; decide +kernel
set_option maxHeartbeats 4000000 in
set_option maxRecDepth 100000 in
theorem c_al_add_T (l : Launch) (D : va_G) (cs : Nat → ClassId) (mi : Nat) (hl0 : Nat) (lq : Nat) (lc : Nat) (lf : Nat → Int32) (lg : Nat → Option Nat) (P : va_W) (fa : Nat) (g0 : lc ≤ 1000000) (g1 : 10 ≤ lc) (g2 : 0 ≤ (lf 1).toInt) (g3 : (lf 1).toInt ≤ (lc : Int)) (hel : ElS P (lf 1) lg) (hsy : Sy P (some fa)) : MgI l y_Lst_add2 b_Lst_add2 2 (.boolean) D cs 6 400 (1) ((4 * lc + 40)) [.ref hl0, .ref fa] [wd_Lst cs hl0 (fun _ => 0) (fun k => if k = 0 then (some lq) else none) lf (fun _ _ => 0) (fun _ _ => none), [(lq, .inl (cs 12, lc, .inr (.inr (.inr (.inr lg)))))], P] (oX (fun A U H => (va_Mi "[Ljava/lang/Object;" mi U)) [wd_Lst cs hl0 (fun _ => 0) (fun k => if k = 0 then (some lq) else none) lf (fun _ _ => 0) (fun _ _ => none), [(lq, .inl (cs 12, lc, .inr (.inr (.inr (.inr lg)))))], P]) (fun v ps => ∃ (lq' lc' : Nat) (lf' : Nat → Int32) (lg' : Nat → Option Nat), (ps.1 = [wd_Lst cs hl0 (fun _ => 0) (fun k => if k = 0 then (some lq') else none) lf' (fun _ _ => 0) (fun _ _ => none), [(lq', .inl (cs 12, lc', .inr (.inr (.inr (.inr lg')))))], P]) ∧ ((lf' 1).toInt = (lf 1).toInt + 1) ∧ ((lf' 1).toInt ≤ (lc' : Int)) ∧ (AddL (lf 1) lg lg' fa) ∧ ((lc : Int) ≤ (lc' : Int)) ∧ ((lc' : Int) ≤ 2 * (lc : Int) + 10) ∧ (10 ≤ lc') ∧ (Lcap lc (lf 1) lc') ∧ (ps.2.1 ≤ 1) ∧ ((ps.2.1 : Int) ≤ (lc' : Int) - (lc : Int)) ∧ ((ps.2.2 : Int) ≤ 4 * ((lc' : Int) - (lc : Int)))) := by
  refine pg_enter (by decide) (Nat.le_of_ble_eq_true rfl) ?_
  intro p e s m below meth c A ls hAe S hr hlk hnm hA hT hX hw hl
  replace hl : lv_has ls 2 [(0, .ref hl0), (1, .ref fa)] := hl
  have cst1 : (1 : Int32).toInt = 1 := rfl
  have hX : (fun A U H => (va_Mi "[Ljava/lang/Object;" mi U)) A s s.heap := by rw [hAe]; exact hX
  have hM := hX
  have hcn : (nI lc).toInt = (lc : Int) := nI_toInt (by omega)
  have hel0 := hel
  refine lv_aload_n S.x S.b d_Lst_add2_0 rfl (lv_at hl 0 rfl) ?_
  refine lv_dup S.x S.b d_Lst_add2_1 rfl ?_
  refine px_getS S k_Lst hT hw 0 0 2 (v := .int (lf 2)) rfl rfl rfl (by decide) m1_191 m1_192 d_Lst_add2_2 ?_
  refine lv_iconst (v := 1) S.x S.b d_Lst_add2_5 (by decide) ?_
  refine lv_iadd S.x S.b d_Lst_add2_6 ?_
  have lr1 := Int32.le_toInt (lf 2)
  have ur1 := Int32.toInt_lt (lf 2)
  refine lv_topi (fun z2 ez2 => ?_)
  have tz2 : z2.toInt = ((lf 2).toInt + (1 : Int) + 2147483648) % 4294967296 - 2147483648 := by rw [ez2]; exact i_add (lf 2) 1
  have lz2 := Int32.le_toInt z2
  have uz2 := Int32.toInt_lt z2
  try replace tz2 : z2.toInt = (lf 2).toInt + (1 : Int) := by omega
  refine px_putS S k_Lst hT hw 0 0 2 rfl rfl (by decide) m1_191 m1_192 rfl rfl rfl (Nat.le_of_ble_eq_true rfl) d_Lst_add2_7 (w' := wd_Lst cs hl0 (fun _ => 0) (fun k => if k = 0 then (some lq) else none) (upd lf 2 z2) (fun _ _ => 0) (fun _ _ => none)) (ps' := [wd_Lst cs hl0 (fun _ => 0) (fun k => if k = 0 then (some lq) else none) (upd lf 2 z2) (fun _ _ => 0) (fun _ _ => none), [(lq, .inl (cs 12, lc, .inr (.inr (.inr (.inr lg)))))], P]) rfl rfl (fun H locs hw => ?_)
  refine lv_aload_n S.x S.b d_Lst_add2_10 rfl (lv_at hl 0 rfl) ?_
  refine lv_aload_n S.x S.b d_Lst_add2_11 rfl (lv_at hl 1 rfl) ?_
  refine lv_aload_n S.x S.b d_Lst_add2_12 rfl (lv_at hl 0 rfl) ?_
  refine px_get S k_Lst hT hw 0 0 0 (v := .ref lq) rfl rfl rfl (by decide) m1_188 d_Lst_add2_13 ?_
  refine lv_aload_n S.x S.b d_Lst_add2_16 rfl (lv_at hl 0 rfl) ?_
  refine px_get S k_Lst hT hw 0 0 1 (v := .int (lf 1)) rfl rfl rfl (by decide) m1_189 d_Lst_add2_17 ?_
  refine pg_callv (pr := []) (px_runV (As := [.ref fa, .ref lq, .int (lf 1)]) (rest := []) S (c_al_add3_T l D cs mi hl0 lq lc (upd lf 2 z2) lg P (lf 1) fa (show lc ≤ 1000000 from by first | exact g0 | omega) (show 10 ≤ lc from by first | exact g1 | omega) (show 0 ≤ (lf 1).toInt from by first | exact g2 | omega) (show (lf 1).toInt ≤ (lc : Int) from by first | exact g3 | omega) (show (lf 1).toInt = (lf 1).toInt from rfl) (by first | assumption | exact ElF.els (by assumption)) (by first | assumption | exact sy_none | exact fy_none | exact Fy.sy (by assumption) | exact sy_some (by assumption)) _ _) hT (pr := []) (pcs := [wd_Lst cs hl0 (fun _ => 0) (fun k => if k = 0 then (some lq) else none) (upd lf 2 z2) (fun _ _ => 0) (fun _ _ => none), [(lq, .inl (cs 12, lc, .inr (.inr (.inr (.inr lg)))))], P]) hw (px_X.tot (oX_call (P := (fun A U H => (va_Mi "[Ljava/lang/Object;" mi U))) (pr := []) oG_M hw hA hM)) (px_recv hT hw 0 0 rfl rfl rfl) m2_13 m2_10 m2_12 ms_1_0 m1_10 q_Lst_add ⟨Nat.le_of_ble_eq_true rfl, Nat.le_of_ble_eq_true rfl⟩ hl.1 rfl (Nat.le_of_ble_eq_true rfl) d_Lst_add2_20 ⟨show 0 + (1) ≤ 1 from by omega, show 0 + (4 * lc + 40) ≤ (4 * lc + 40) from (by first | exact oz_fb25b3e9fe | omega)⟩) hw hA (fun p7 k9 n10 H locs hp7 hw => ?_)
  dsimp only at hp7
  obtain ⟨lq3, lc4, lf5, lg6, rfl, e11, e12, e13, e14, e15, e16, e17, e18, e19, e20⟩ := hp7
  replace e11 : (lf5 1).toInt = (lf 1).toInt + 1 := e11
  replace e12 : (lf5 1).toInt ≤ (lc4 : Int) := e12
  replace e13 : AddL (lf 1) lg lg6 fa := e13
  replace e14 : (lc : Int) ≤ (lc4 : Int) := e14
  replace e15 : (lc4 : Int) ≤ 2 * (lc : Int) + 10 := e15
  replace e16 : 10 ≤ lc4 := e16
  replace e17 : Lcap lc (lf 1) lc4 := e17
  replace e18 : k9 ≤ 1 := e18
  replace e19 : (k9 : Int) ≤ (lc4 : Int) - (lc : Int) := e19
  replace e20 : (n10 : Int) ≤ 4 * ((lc4 : Int) - (lc : Int)) := e20
  replace hw : pw D A s.heap H locs [wd_Lst cs hl0 (fun _ => 0) (fun k => if k = 0 then (some lq3) else none) lf5 (fun _ _ => 0) (fun _ _ => none), [(lq3, .inl (cs 12, lc4, .inr (.inr (.inr (.inr lg6)))))], P] := hw
  refine lv_iconst (v := 1) S.x S.b d_Lst_add2_23 (by decide) ?_
  exact pg_iret (v := 1) S hr rfl hlk hAe hw (show (0 + k9) ≤ 1 from by first | exact oz_0ee4199d15 e18 | omega) (show (0 + n10) ≤ (4 * lc + 40) from by first | exact oz_d3e3da878d e15 e20 | omega) (⟨lq3, lc4, lf5, lg6, rfl, (show (lf5 1).toInt = (lf 1).toInt + 1 from by first | omega | exact Or.inr rfl), (show (lf5 1).toInt ≤ (lc4 : Int) from by first | omega | exact Or.inr rfl), (show AddL (lf 1) lg lg6 fa from (by first | assumption | exact addl_mk (m := lc) (by first | assumption | exact cpy_rf) (by omega) (by omega) (by omega) | exact addl_mk (m := 0) cpy_0 (by omega) (by omega) (by omega))), (show (lc : Int) ≤ (lc4 : Int) from by first | omega | exact Or.inr rfl), (show (lc4 : Int) ≤ 2 * (lc : Int) + 10 from by first | omega | exact Or.inr rfl), (show 10 ≤ lc4 from by first | omega | exact Or.inr rfl), (show Lcap lc (lf 1) lc4 from (by first | assumption | exact Or.inl rfl | exact Or.inr (by omega))), (show (0 + k9) ≤ 1 from by first | exact oz_0ee4199d15 e18 | omega), (show ((0 + k9) : Int) ≤ (lc4 : Int) - (lc : Int) from by first | exact oz_11ae369335 e19 | omega), (show ((0 + n10) : Int) ≤ 4 * ((lc4 : Int) - (lc : Int)) from by first | exact oz_de7e83e532 e20 | omega)⟩) d_Lst_add2_24
set_option maxHeartbeats 4000000 in
set_option maxRecDepth 100000 in
theorem c_al_add_F (l : Launch) (D : va_G) (cs : Nat → ClassId) (em : Nat) (mi : Nat) (hl0 : Nat) (lq : Nat) (lf : Nat → Int32) (P : va_W) (fa : Nat) (g0 : (lf 1).toInt = 0) (hle : lq = em) (hsy : Sy P (some fa)) : MgI l y_Lst_add2 b_Lst_add2 2 (.boolean) D cs 6 400 (1) ((40)) [.ref hl0, .ref fa] [wd_Lst cs hl0 (fun _ => 0) (fun k => if k = 0 then (some lq) else none) lf (fun _ _ => 0) (fun _ _ => none), P] (oX (fun A U H => (oE A em U H) ∧ (va_Mi "[Ljava/lang/Object;" mi U)) [wd_Lst cs hl0 (fun _ => 0) (fun k => if k = 0 then (some lq) else none) lf (fun _ _ => 0) (fun _ _ => none), P]) (fun v ps => ∃ (lq' lc' : Nat) (lf' : Nat → Int32) (lg' : Nat → Option Nat), (ps.1 = [wd_Lst cs hl0 (fun _ => 0) (fun k => if k = 0 then (some lq') else none) lf' (fun _ _ => 0) (fun _ _ => none), [(lq', .inl (cs 12, lc', .inr (.inr (.inr (.inr lg')))))], P]) ∧ ((lf' 1).toInt = (lf 1).toInt + 1) ∧ ((lf' 1).toInt ≤ (lc' : Int)) ∧ (AddL (lf 1) (fun _ => none) lg' fa) ∧ ((0 : Int) ≤ (lc' : Int)) ∧ ((lc' : Int) ≤ 2 * (0 : Int) + 10) ∧ (10 ≤ lc') ∧ (Lcap 0 (lf 1) lc') ∧ (ps.2.1 ≤ 1) ∧ ((ps.2.1 : Int) ≤ (lc' : Int) - (0 : Int)) ∧ ((ps.2.2 : Int) ≤ 4 * ((lc' : Int) - (0 : Int)))) := by
  refine pg_enter (by decide) (Nat.le_of_ble_eq_true rfl) ?_
  intro p e s m below meth c A ls hAe S hr hlk hnm hA hT hX hw hl
  replace hl : lv_has ls 2 [(0, .ref hl0), (1, .ref fa)] := hl
  have cst1 : (1 : Int32).toInt = 1 := rfl
  have hX : (fun A U H => (oE A em U H) ∧ (va_Mi "[Ljava/lang/Object;" mi U)) A s s.heap := by rw [hAe]; exact hX
  obtain ⟨hE, hM⟩ := hX
  subst hle
  refine lv_aload_n S.x S.b d_Lst_add2_0 rfl (lv_at hl 0 rfl) ?_
  refine lv_dup S.x S.b d_Lst_add2_1 rfl ?_
  refine px_getS S k_Lst hT hw 0 0 2 (v := .int (lf 2)) rfl rfl rfl (by decide) m1_191 m1_192 d_Lst_add2_2 ?_
  refine lv_iconst (v := 1) S.x S.b d_Lst_add2_5 (by decide) ?_
  refine lv_iadd S.x S.b d_Lst_add2_6 ?_
  have lr1 := Int32.le_toInt (lf 2)
  have ur1 := Int32.toInt_lt (lf 2)
  refine lv_topi (fun z2 ez2 => ?_)
  have tz2 : z2.toInt = ((lf 2).toInt + (1 : Int) + 2147483648) % 4294967296 - 2147483648 := by rw [ez2]; exact i_add (lf 2) 1
  have lz2 := Int32.le_toInt z2
  have uz2 := Int32.toInt_lt z2
  try replace tz2 : z2.toInt = (lf 2).toInt + (1 : Int) := by omega
  refine px_putS S k_Lst hT hw 0 0 2 rfl rfl (by decide) m1_191 m1_192 rfl rfl rfl (Nat.le_of_ble_eq_true rfl) d_Lst_add2_7 (w' := wd_Lst cs hl0 (fun _ => 0) (fun k => if k = 0 then (some lq) else none) (upd lf 2 z2) (fun _ _ => 0) (fun _ _ => none)) (ps' := [wd_Lst cs hl0 (fun _ => 0) (fun k => if k = 0 then (some lq) else none) (upd lf 2 z2) (fun _ _ => 0) (fun _ _ => none), P]) rfl rfl (fun H locs hw => ?_)
  refine lv_aload_n S.x S.b d_Lst_add2_10 rfl (lv_at hl 0 rfl) ?_
  refine lv_aload_n S.x S.b d_Lst_add2_11 rfl (lv_at hl 1 rfl) ?_
  refine lv_aload_n S.x S.b d_Lst_add2_12 rfl (lv_at hl 0 rfl) ?_
  refine px_get S k_Lst hT hw 0 0 0 (v := .ref lq) rfl rfl rfl (by decide) m1_188 d_Lst_add2_13 ?_
  refine lv_aload_n S.x S.b d_Lst_add2_16 rfl (lv_at hl 0 rfl) ?_
  refine px_get S k_Lst hT hw 0 0 1 (v := .int (lf 1)) rfl rfl rfl (by decide) m1_189 d_Lst_add2_17 ?_
  refine pg_callv (pr := []) (px_runV (As := [.ref fa, .ref lq, .int (lf 1)]) (rest := []) S (c_al_add3_F l D cs lq mi hl0 lq (upd lf 2 z2) P (lf 1) fa (show (lf 1).toInt = 0 from by first | exact g0 | omega) (show (lf 1).toInt = 0 from by first | exact g0 | omega) rfl (by first | assumption | exact sy_none | exact fy_none | exact Fy.sy (by assumption) | exact sy_some (by assumption)) _ _) hT (pr := []) (pcs := [wd_Lst cs hl0 (fun _ => 0) (fun k => if k = 0 then (some lq) else none) (upd lf 2 z2) (fun _ _ => 0) (fun _ _ => none), P]) hw (px_X.tot (oX_call (P := (fun A U H => (oE A lq U H) ∧ (va_Mi "[Ljava/lang/Object;" mi U))) (pr := []) (oG_and oG_E oG_M) hw hA ⟨hE, hM⟩)) (px_recv hT hw 0 0 rfl rfl rfl) m2_13 m2_10 m2_12 ms_1_0 m1_10 q_Lst_add ⟨Nat.le_of_ble_eq_true rfl, Nat.le_of_ble_eq_true rfl⟩ hl.1 rfl (Nat.le_of_ble_eq_true rfl) d_Lst_add2_20 ⟨show 0 + (1) ≤ 1 from by omega, show 0 + (40) ≤ (40) from by omega⟩) hw hA (fun p7 k9 n10 H locs hp7 hw => ?_)
  dsimp only at hp7
  obtain ⟨lq3, lc4, lf5, lg6, rfl, e11, e12, e13, e14, e15, e16, e17, e18, e19, e20⟩ := hp7
  replace e11 : (lf5 1).toInt = (lf 1).toInt + 1 := e11
  replace e12 : (lf5 1).toInt ≤ (lc4 : Int) := e12
  replace e13 : AddL (lf 1) (fun _ => none) lg6 fa := e13
  replace e14 : (0 : Int) ≤ (lc4 : Int) := e14
  replace e15 : (lc4 : Int) ≤ 2 * (0 : Int) + 10 := e15
  replace e16 : 10 ≤ lc4 := e16
  replace e17 : Lcap 0 (lf 1) lc4 := e17
  replace e18 : k9 ≤ 1 := e18
  replace e19 : (k9 : Int) ≤ (lc4 : Int) - (0 : Int) := e19
  replace e20 : (n10 : Int) ≤ 4 * ((lc4 : Int) - (0 : Int)) := e20
  replace hw : pw D A s.heap H locs [wd_Lst cs hl0 (fun _ => 0) (fun k => if k = 0 then (some lq3) else none) lf5 (fun _ _ => 0) (fun _ _ => none), [(lq3, .inl (cs 12, lc4, .inr (.inr (.inr (.inr lg6)))))], P] := hw
  refine lv_iconst (v := 1) S.x S.b d_Lst_add2_23 (by decide) ?_
  exact pg_iret (v := 1) S hr rfl hlk hAe hw (show (0 + k9) ≤ 1 from by first | exact oz_0ee4199d15 e18 | omega) (show (0 + n10) ≤ (40) from by first | exact oz_763d747839 e20 e15 | omega) (⟨lq3, lc4, lf5, lg6, rfl, (show (lf5 1).toInt = (lf 1).toInt + 1 from by first | omega | exact Or.inr rfl), (show (lf5 1).toInt ≤ (lc4 : Int) from by first | omega | exact Or.inr rfl), (show AddL (lf 1) (fun _ => none) lg6 fa from (by first | assumption | exact addl_mk (m := lc) (by first | assumption | exact cpy_rf) (by omega) (by omega) (by omega) | exact addl_mk (m := 0) cpy_0 (by omega) (by omega) (by omega))), (show (0 : Int) ≤ (lc4 : Int) from by first | omega | exact Or.inr rfl), (show (lc4 : Int) ≤ 2 * (0 : Int) + 10 from by first | omega | exact Or.inr rfl), (show 10 ≤ lc4 from by first | omega | exact Or.inr rfl), (show Lcap 0 (lf 1) lc4 from (by first | assumption | exact Or.inl rfl | exact Or.inr (by omega))), (show (0 + k9) ≤ 1 from by first | exact oz_0ee4199d15 e18 | omega), (show ((0 + k9) : Int) ≤ (lc4 : Int) - (0 : Int) from by first | exact oz_df7b49c329 e16 e18 | omega), (show ((0 + n10) : Int) ≤ 4 * ((lc4 : Int) - (0 : Int)) from by first | exact oz_1506aa982e e20 | omega)⟩) d_Lst_add2_24
