theorem m2_211n : Cond.arrayOver (FieldType.object "HomeSystem$Program") ∈ tables_1 := by unfold tables_1; exact List.mem_append_right _ (List.mem_append_left _ (List.mem_of_getElem? (i := 211) rfl))
theorem m2_213n : Cond.arrayOver (FieldType.object "HomeSystem$AnyProcess") ∈ tables_1 := by unfold tables_1; exact List.mem_append_right _ (List.mem_append_left _ (List.mem_of_getElem? (i := 213) rfl))
theorem m2_215n : Cond.arrayOver (FieldType.object "HomeSystem$TextProcess") ∈ tables_1 := by unfold tables_1; exact List.mem_append_right _ (List.mem_append_left _ (List.mem_of_getElem? (i := 215) rfl))
theorem m2_217n : Cond.arrayOver (FieldType.object "HomeSystem$RawProcess") ∈ tables_1 := by unfold tables_1; exact List.mem_append_right _ (List.mem_append_left _ (List.mem_of_getElem? (i := 217) rfl))
theorem m9_131n : Cond.arrayOver (FieldType.object "HomeSystemModel$Program") ∈ tables_1 := by unfold tables_1; exact List.mem_append_right _ (List.mem_append_right _ (List.mem_append_right _ (List.mem_append_right _ (List.mem_append_right _ (List.mem_append_right _ (List.mem_append_right _ (List.mem_append_right _ (List.mem_append_left _ (List.mem_of_getElem? (i := 131) rfl)))))))))
theorem m9_133n : Cond.arrayOver (FieldType.object "HomeSystemModel$Process") ∈ tables_1 := by unfold tables_1; exact List.mem_append_right _ (List.mem_append_right _ (List.mem_append_right _ (List.mem_append_right _ (List.mem_append_right _ (List.mem_append_right _ (List.mem_append_right _ (List.mem_append_right _ (List.mem_append_left _ (List.mem_of_getElem? (i := 133) rfl)))))))))
theorem m9_140n : Cond.arrayOver (FieldType.object "java/lang/String") ∈ tables_1 := by unfold tables_1; exact List.mem_append_right _ (List.mem_append_right _ (List.mem_append_right _ (List.mem_append_right _ (List.mem_append_right _ (List.mem_append_right _ (List.mem_append_right _ (List.mem_append_right _ (List.mem_append_left _ (List.mem_of_getElem? (i := 140) rfl)))))))))
theorem m2_65n : Cond.arrayOver (FieldType.object "java/lang/Object") ∈ tables_1 := by unfold tables_1; exact List.mem_append_right _ (List.mem_append_left _ (List.mem_of_getElem? (i := 65) rfl))
theorem m1_41 : Cond.instantiable "HomeSystem" 6 ∈ AL := AL_1 (List.mem_of_getElem? (i := 41) rfl) rfl
theorem m9_125 : Cond.instantiable "HomeSystemModel" 11 ∈ AL := AL_9 (List.mem_of_getElem? (i := 125) rfl) rfl
theorem m14_221 : Cond.arrayClass FieldType.long ∈ AL := AL_14 (List.mem_of_getElem? (i := 221) rfl) rfl
/-! WHAT THE LAW'S START KNOWS of the tables -/
theorem kn_of {args : Array Value} {s : State} (hts : ∀ w ∈ lw_tbl, w.before args s = true) {i N n : Nat} {C : String} {T : u_T} {t : Nat → FieldType} (k : px_cls i C T N t) (hi : Cond.instantiable C n ∈ AL) : ∃ (cC : ClassId) (iS : Nat → Nat), u_Kn s C T N cC iS := u_known (ws := AL) (fun w h => hts w (AL_in w h)) k.2.2.2 (hts _ (AL_in _ hi))
theorem ar_p {args : Array Value} {s : State} {ty : FieldType} (h : (Cond.arrayClass ty).before args s = true) (e : ∀ cA, s.vm.findClass ("[" ++ ty.toString) = some cA → va_RA s cA ty) : ∃ cA : ClassId, ArrOfT s cA ty ∧ va_RA s cA ty := by
  obtain ⟨cA, kA, comp, h1, h2, h3⟩ := Cond.arrayClass_spec h
  exact ⟨cA, fun n z => ⟨fun k h => (by cases h), kA, h2, comp, h3⟩, e cA h1⟩
theorem ar_o {s : State} {C : String} (h : va_AO C s) : ∃ cA : ClassId, ArrOfT s cA (.object C) ∧ va_RA s cA (.object C) := by
  obtain ⟨comp, c, k, h1, h2, h3, h4, h5⟩ := Cond.arrayOver_spec h
  exact ⟨c, fun n z => ⟨fun k h => (by cases h), k, h3, comp, h4⟩, k, comp, h3, h4, h1, h5⟩
theorem ao_all {args : Array Value} {s : State} (hts : ∀ w ∈ lw_tbl, w.before args s = true) : ∀ C ∈ aoL, va_AO C s := by
  intro C h
  simp only [aoL, List.mem_cons, List.not_mem_nil, or_false] at h
  rcases h with rfl | rfl | rfl | rfl | rfl | rfl | rfl | rfl
  · exact va_AO.of (hts _ (List.mem_append_right _ m2_211n))
  · exact va_AO.of (hts _ (List.mem_append_right _ m2_213n))
  · exact va_AO.of (hts _ (List.mem_append_right _ m2_215n))
  · exact va_AO.of (hts _ (List.mem_append_right _ m2_217n))
  · exact va_AO.of (hts _ (List.mem_append_right _ m9_131n))
  · exact va_AO.of (hts _ (List.mem_append_right _ m9_133n))
  · exact va_AO.of (hts _ (List.mem_append_right _ m9_140n))
  · exact va_AO.of (hts _ (List.mem_append_right _ m2_65n))
theorem nw_all {args : Array Value} {s : State} (hts : ∀ w ∈ lw_tbl, w.before args s = true) : ∀ w ∈ tables_1, nst w = true → va_Nw w s := fun w h hn => va_tabs (by cases w <;> first | rfl | cases hn) rfl (hts w (List.mem_append_right _ h))
theorem kn_all {args : Array Value} {s : State} (hts : ∀ w ∈ lw_tbl, w.before args s = true) : ∀ q ∈ classes, ∃ (cC : ClassId) (iS : Nat → Nat), u_Kn s q.1 q.2.1 q.2.2 cC iS := by
  intro q h
  simp only [classes, List.mem_cons, List.not_mem_nil, or_false] at h
  rcases h with rfl | rfl | rfl | rfl | rfl | rfl | rfl | rfl | rfl | rfl | rfl | rfl | rfl | rfl | rfl
  · exact kn_of hts k_Hs (n := 6) m1_41
  · exact kn_of hts k_Tok (n := 19) m1_49
  · exact kn_of hts k_Nam (n := 5) m1_169
  · exact kn_of hts k_Sym (n := 7) m1_203
  · exact kn_of hts k_Prg (n := 6) m2_92
  · exact kn_of hts k_Exp (n := 3) m2_126
  · exact kn_of hts k_Cmp (n := 18) m2_142
  · exact kn_of hts k_Ker (n := 10) m2_205
  · exact kn_of hts k_Opd (n := 9) m4_212
  · exact kn_of hts k_Raw (n := 18) m6_116
  · exact kn_of hts k_Txp (n := 25) m6_208
  · exact kn_of hts k_Mo (n := 11) m9_125
  · exact kn_of hts k_Mpg (n := 69) m9_134
  · exact kn_of hts k_Mpr (n := 26) m10_214
  · exact kn_of hts k_Lst (n := 3) m1_175
theorem tb_start {args : Array Value} {s : State} (hts : ∀ w ∈ lw_tbl, w.before args s = true) : ∃ (D : va_G) (cs : Nat → ClassId), Tb D cs s := by
  have hk : ∀ c : Nat, ∃ r : ClassId × (Nat → Nat), ∀ q, classes[c]? = some q → u_Kn s q.1 q.2.1 q.2.2 r.1 r.2 := by
    intro c
    cases h : classes[c]? with
    | none => exact ⟨(default, fun _ => 0), fun q h => by cases h⟩
    | some q =>
      obtain ⟨cC, iS, k⟩ := kn_all hts q (List.mem_of_getElem? h)
      exact ⟨(cC, iS), fun q2 e => by cases e; exact k⟩
  have ao := ao_all hts
  obtain ⟨c0, h0⟩ := ar_p (ty := .int) (hts _ (AL_in _ m1_166)) (fun cA h => h)
  obtain ⟨c1, h1⟩ := ar_p (ty := .byte) (hts _ (AL_in _ m1_165)) (fun cA h => h)
  obtain ⟨c2, h2⟩ := ar_p (ty := .char) (hts _ (AL_in _ m1_167)) (fun cA h => h)
  obtain ⟨c3, h3⟩ := ar_p (ty := .boolean) (hts _ (AL_in _ m10_213)) (fun cA h => h)
  obtain ⟨c4, h4⟩ := ar_p (ty := .long) (hts _ (AL_in _ m14_221)) (fun cA h => h)
  obtain ⟨c5, h5⟩ := ar_o (ao "HomeSystem$Program" (by simp [aoL]))
  obtain ⟨c6, h6⟩ := ar_o (ao "HomeSystem$AnyProcess" (by simp [aoL]))
  obtain ⟨c7, h7⟩ := ar_o (ao "HomeSystem$TextProcess" (by simp [aoL]))
  obtain ⟨c8, h8⟩ := ar_o (ao "HomeSystem$RawProcess" (by simp [aoL]))
  obtain ⟨c9, h9⟩ := ar_o (ao "HomeSystemModel$Program" (by simp [aoL]))
  obtain ⟨c10, h10⟩ := ar_o (ao "HomeSystemModel$Process" (by simp [aoL]))
  obtain ⟨c11, h11⟩ := ar_o (ao "java/lang/String" (by simp [aoL]))
  obtain ⟨c12, h12⟩ := ar_o (ao "java/lang/Object" (by simp [aoL]))
  refine ⟨(fun c => (Classical.choose (hk c)).1, fun c => (Classical.choose (hk c)).2), fun k => match k with | 0 => c0 | 1 => c1 | 2 => c2 | 3 => c3 | 4 => c4 | 5 => c5 | 6 => c6 | 7 => c7 | 8 => c8 | 9 => c9 | 10 => c10 | 11 => c11 | _ => c12, ⟨fun c q h => Classical.choose_spec (hk c) q h, ?_⟩, ao, nw_all hts⟩
  intro k q h
  have h := List.mem_of_getElem? h
  simp only [tyL, List.mem_cons, List.not_mem_nil, or_false] at h
  rcases h with rfl | rfl | rfl | rfl | rfl | rfl | rfl | rfl | rfl | rfl | rfl | rfl | rfl
  · exact h0
  · exact h1
  · exact h2
  · exact h3
  · exact h4
  · exact h5
  · exact h6
  · exact h7
  · exact h8
  · exact h9
  · exact h10
  · exact h11
  · exact h12
