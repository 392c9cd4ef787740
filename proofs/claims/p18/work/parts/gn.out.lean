theorem m1_64n : Cond.laysStatic "java/lang/String" "COMPACT_STRINGS" "Z" ∈ tables_1 := by unfold tables_1; exact List.mem_append_left _ (List.mem_of_getElem? (i := 64) rfl)
theorem m1_80n : Cond.laysStatic "jdk/internal/util/Preconditions" "SIOOBE_FORMATTER" "Ljava/util/function/BiFunction;" ∈ tables_1 := by unfold tables_1; exact List.mem_append_left _ (List.mem_of_getElem? (i := 80) rfl)
theorem m3_82n : Cond.laysStatic "java/lang/Throwable" "UNASSIGNED_STACK" "[Ljava/lang/StackTraceElement;" ∈ tables_1 := by unfold tables_1; exact List.mem_append_right _ (List.mem_append_right _ (List.mem_append_left _ (List.mem_of_getElem? (i := 82) rfl)))
theorem m3_84n : Cond.laysStatic "java/lang/Throwable" "SUPPRESSED_SENTINEL" "Ljava/util/List;" ∈ tables_1 := by unfold tables_1; exact List.mem_append_right _ (List.mem_append_right _ (List.mem_append_left _ (List.mem_of_getElem? (i := 84) rfl)))
theorem m1_187n : Cond.laysStatic "java/util/ArrayList" "DEFAULTCAPACITY_EMPTY_ELEMENTDATA" "[Ljava/lang/Object;" ∈ tables_1 := by unfold tables_1; exact List.mem_append_left _ (List.mem_of_getElem? (i := 187) rfl)
theorem m1_201n : Cond.laysStatic "HomeSystem" "GIVEN_WANTS" "[I" ∈ tables_1 := by unfold tables_1; exact List.mem_append_left _ (List.mem_of_getElem? (i := 201) rfl)
theorem m2_3n : Cond.laysStatic "HomeSystem" "GIVEN_TYPES" "[I" ∈ tables_1 := by unfold tables_1; exact List.mem_append_right _ (List.mem_append_left _ (List.mem_of_getElem? (i := 3) rfl))
theorem m2_5n : Cond.laysStatic "HomeSystem" "GIVEN_COUNTS" "[I" ∈ tables_1 := by unfold tables_1; exact List.mem_append_right _ (List.mem_append_left _ (List.mem_of_getElem? (i := 5) rfl))
theorem fam_0 {args : Array Value} {s : State} {A : Nat → Prop} (hN : ∀ c ∈ NF, c.before args s = true) (hts : ∀ w ∈ lw_tbl, w.before args s = true) (hA : ∀ a : Nat, a < s.heap.size → ¬ A a) : ∀ i : Nat, ∃ sk : Nat, i < 15 → vk_R "HomeSystemModel$Program" (kix0 i) (ktx0 i) sk s ∧ StLt A sk (klen i) (kby i) s s.heap := by
  intro i
  match i with
  | 0 => obtain ⟨sk, st, h1, h2⟩ := st_p_11 (A := A) hN hts hA; exact ⟨sk, fun _ => ⟨h1, st, h2⟩⟩
  | 1 => obtain ⟨sk, st, h1, h2⟩ := st_p_13 (A := A) hN hts hA; exact ⟨sk, fun _ => ⟨h1, st, h2⟩⟩
  | 2 => obtain ⟨sk, st, h1, h2⟩ := st_p_15 (A := A) hN hts hA; exact ⟨sk, fun _ => ⟨h1, st, h2⟩⟩
  | 3 => obtain ⟨sk, st, h1, h2⟩ := st_p_17 (A := A) hN hts hA; exact ⟨sk, fun _ => ⟨h1, st, h2⟩⟩
  | 4 => obtain ⟨sk, st, h1, h2⟩ := st_p_19 (A := A) hN hts hA; exact ⟨sk, fun _ => ⟨h1, st, h2⟩⟩
  | 5 => obtain ⟨sk, st, h1, h2⟩ := st_p_21 (A := A) hN hts hA; exact ⟨sk, fun _ => ⟨h1, st, h2⟩⟩
  | 6 => obtain ⟨sk, st, h1, h2⟩ := st_p_23 (A := A) hN hts hA; exact ⟨sk, fun _ => ⟨h1, st, h2⟩⟩
  | 7 => obtain ⟨sk, st, h1, h2⟩ := st_p_25 (A := A) hN hts hA; exact ⟨sk, fun _ => ⟨h1, st, h2⟩⟩
  | 8 => obtain ⟨sk, st, h1, h2⟩ := st_p_27 (A := A) hN hts hA; exact ⟨sk, fun _ => ⟨h1, st, h2⟩⟩
  | 9 => obtain ⟨sk, st, h1, h2⟩ := st_p_29 (A := A) hN hts hA; exact ⟨sk, fun _ => ⟨h1, st, h2⟩⟩
  | 10 => obtain ⟨sk, st, h1, h2⟩ := st_p_31 (A := A) hN hts hA; exact ⟨sk, fun _ => ⟨h1, st, h2⟩⟩
  | 11 => obtain ⟨sk, st, h1, h2⟩ := st_p_33 (A := A) hN hts hA; exact ⟨sk, fun _ => ⟨h1, st, h2⟩⟩
  | 12 => obtain ⟨sk, st, h1, h2⟩ := st_p_35 (A := A) hN hts hA; exact ⟨sk, fun _ => ⟨h1, st, h2⟩⟩
  | 13 => obtain ⟨sk, st, h1, h2⟩ := st_p_37 (A := A) hN hts hA; exact ⟨sk, fun _ => ⟨h1, st, h2⟩⟩
  | 14 => obtain ⟨sk, st, h1, h2⟩ := st_p_39 (A := A) hN hts hA; exact ⟨sk, fun _ => ⟨h1, st, h2⟩⟩
  | n + 15 => exact ⟨0, fun h => absurd h (by omega)⟩
theorem fam_1 {args : Array Value} {s : State} {A : Nat → Prop} (hN : ∀ c ∈ NF, c.before args s = true) (hts : ∀ w ∈ lw_tbl, w.before args s = true) (hA : ∀ a : Nat, a < s.heap.size → ¬ A a) : ∀ i : Nat, ∃ sk : Nat, i < 43 → vk_R "HomeSystemModel$Program" (kix1 i) (ktx1 i) sk s ∧ StLt A sk (mlen i) (mby i) s s.heap := by
  intro i
  match i with
  | 0 => obtain ⟨sk, st, h1, h2⟩ := st_p_47 (A := A) hN hts hA; exact ⟨sk, fun _ => ⟨h1, st, h2⟩⟩
  | 1 => obtain ⟨sk, st, h1, h2⟩ := st_p_49 (A := A) hN hts hA; exact ⟨sk, fun _ => ⟨h1, st, h2⟩⟩
  | 2 => obtain ⟨sk, st, h1, h2⟩ := st_p_51 (A := A) hN hts hA; exact ⟨sk, fun _ => ⟨h1, st, h2⟩⟩
  | 3 => obtain ⟨sk, st, h1, h2⟩ := st_p_53 (A := A) hN hts hA; exact ⟨sk, fun _ => ⟨h1, st, h2⟩⟩
  | 4 => obtain ⟨sk, st, h1, h2⟩ := st_p_55 (A := A) hN hts hA; exact ⟨sk, fun _ => ⟨h1, st, h2⟩⟩
  | 5 => obtain ⟨sk, st, h1, h2⟩ := st_p_57 (A := A) hN hts hA; exact ⟨sk, fun _ => ⟨h1, st, h2⟩⟩
  | 6 => obtain ⟨sk, st, h1, h2⟩ := st_p_59 (A := A) hN hts hA; exact ⟨sk, fun _ => ⟨h1, st, h2⟩⟩
  | 7 => obtain ⟨sk, st, h1, h2⟩ := st_p_61 (A := A) hN hts hA; exact ⟨sk, fun _ => ⟨h1, st, h2⟩⟩
  | 8 => obtain ⟨sk, st, h1, h2⟩ := st_p_63 (A := A) hN hts hA; exact ⟨sk, fun _ => ⟨h1, st, h2⟩⟩
  | 9 => obtain ⟨sk, st, h1, h2⟩ := st_p_65 (A := A) hN hts hA; exact ⟨sk, fun _ => ⟨h1, st, h2⟩⟩
  | 10 => obtain ⟨sk, st, h1, h2⟩ := st_p_67 (A := A) hN hts hA; exact ⟨sk, fun _ => ⟨h1, st, h2⟩⟩
  | 11 => obtain ⟨sk, st, h1, h2⟩ := st_p_69 (A := A) hN hts hA; exact ⟨sk, fun _ => ⟨h1, st, h2⟩⟩
  | 12 => obtain ⟨sk, st, h1, h2⟩ := st_p_71 (A := A) hN hts hA; exact ⟨sk, fun _ => ⟨h1, st, h2⟩⟩
  | 13 => obtain ⟨sk, st, h1, h2⟩ := st_p_73 (A := A) hN hts hA; exact ⟨sk, fun _ => ⟨h1, st, h2⟩⟩
  | 14 => obtain ⟨sk, st, h1, h2⟩ := st_p_75 (A := A) hN hts hA; exact ⟨sk, fun _ => ⟨h1, st, h2⟩⟩
  | 15 => obtain ⟨sk, st, h1, h2⟩ := st_p_77 (A := A) hN hts hA; exact ⟨sk, fun _ => ⟨h1, st, h2⟩⟩
  | 16 => obtain ⟨sk, st, h1, h2⟩ := st_p_79 (A := A) hN hts hA; exact ⟨sk, fun _ => ⟨h1, st, h2⟩⟩
  | 17 => obtain ⟨sk, st, h1, h2⟩ := st_p_81 (A := A) hN hts hA; exact ⟨sk, fun _ => ⟨h1, st, h2⟩⟩
  | 18 => obtain ⟨sk, st, h1, h2⟩ := st_p_83 (A := A) hN hts hA; exact ⟨sk, fun _ => ⟨h1, st, h2⟩⟩
  | 19 => obtain ⟨sk, st, h1, h2⟩ := st_p_85 (A := A) hN hts hA; exact ⟨sk, fun _ => ⟨h1, st, h2⟩⟩
  | 20 => obtain ⟨sk, st, h1, h2⟩ := st_p_87 (A := A) hN hts hA; exact ⟨sk, fun _ => ⟨h1, st, h2⟩⟩
  | 21 => obtain ⟨sk, st, h1, h2⟩ := st_p_89 (A := A) hN hts hA; exact ⟨sk, fun _ => ⟨h1, st, h2⟩⟩
  | 22 => obtain ⟨sk, st, h1, h2⟩ := st_p_91 (A := A) hN hts hA; exact ⟨sk, fun _ => ⟨h1, st, h2⟩⟩
  | 23 => obtain ⟨sk, st, h1, h2⟩ := st_p_93 (A := A) hN hts hA; exact ⟨sk, fun _ => ⟨h1, st, h2⟩⟩
  | 24 => obtain ⟨sk, st, h1, h2⟩ := st_p_95 (A := A) hN hts hA; exact ⟨sk, fun _ => ⟨h1, st, h2⟩⟩
  | 25 => obtain ⟨sk, st, h1, h2⟩ := st_p_97 (A := A) hN hts hA; exact ⟨sk, fun _ => ⟨h1, st, h2⟩⟩
  | 26 => obtain ⟨sk, st, h1, h2⟩ := st_p_99 (A := A) hN hts hA; exact ⟨sk, fun _ => ⟨h1, st, h2⟩⟩
  | 27 => obtain ⟨sk, st, h1, h2⟩ := st_p_101 (A := A) hN hts hA; exact ⟨sk, fun _ => ⟨h1, st, h2⟩⟩
  | 28 => obtain ⟨sk, st, h1, h2⟩ := st_p_103 (A := A) hN hts hA; exact ⟨sk, fun _ => ⟨h1, st, h2⟩⟩
  | 29 => obtain ⟨sk, st, h1, h2⟩ := st_p_105 (A := A) hN hts hA; exact ⟨sk, fun _ => ⟨h1, st, h2⟩⟩
  | 30 => obtain ⟨sk, st, h1, h2⟩ := st_p_107 (A := A) hN hts hA; exact ⟨sk, fun _ => ⟨h1, st, h2⟩⟩
  | 31 => obtain ⟨sk, st, h1, h2⟩ := st_p_109 (A := A) hN hts hA; exact ⟨sk, fun _ => ⟨h1, st, h2⟩⟩
  | 32 => obtain ⟨sk, st, h1, h2⟩ := st_p_111 (A := A) hN hts hA; exact ⟨sk, fun _ => ⟨h1, st, h2⟩⟩
  | 33 => obtain ⟨sk, st, h1, h2⟩ := st_p_113 (A := A) hN hts hA; exact ⟨sk, fun _ => ⟨h1, st, h2⟩⟩
  | 34 => obtain ⟨sk, st, h1, h2⟩ := st_p_115 (A := A) hN hts hA; exact ⟨sk, fun _ => ⟨h1, st, h2⟩⟩
  | 35 => obtain ⟨sk, st, h1, h2⟩ := st_p_117 (A := A) hN hts hA; exact ⟨sk, fun _ => ⟨h1, st, h2⟩⟩
  | 36 => obtain ⟨sk, st, h1, h2⟩ := st_p_119 (A := A) hN hts hA; exact ⟨sk, fun _ => ⟨h1, st, h2⟩⟩
  | 37 => obtain ⟨sk, st, h1, h2⟩ := st_p_121 (A := A) hN hts hA; exact ⟨sk, fun _ => ⟨h1, st, h2⟩⟩
  | 38 => obtain ⟨sk, st, h1, h2⟩ := st_p_123 (A := A) hN hts hA; exact ⟨sk, fun _ => ⟨h1, st, h2⟩⟩
  | 39 => obtain ⟨sk, st, h1, h2⟩ := st_p_125 (A := A) hN hts hA; exact ⟨sk, fun _ => ⟨h1, st, h2⟩⟩
  | 40 => obtain ⟨sk, st, h1, h2⟩ := st_p_127 (A := A) hN hts hA; exact ⟨sk, fun _ => ⟨h1, st, h2⟩⟩
  | 41 => obtain ⟨sk, st, h1, h2⟩ := st_p_129 (A := A) hN hts hA; exact ⟨sk, fun _ => ⟨h1, st, h2⟩⟩
  | 42 => obtain ⟨sk, st, h1, h2⟩ := st_p_131 (A := A) hN hts hA; exact ⟨sk, fun _ => ⟨h1, st, h2⟩⟩
  | n + 43 => exact ⟨0, fun h => absurd h (by omega)⟩
theorem fam_2 {args : Array Value} {s : State} {A : Nat → Prop} (hN : ∀ c ∈ NF, c.before args s = true) (hts : ∀ w ∈ lw_tbl, w.before args s = true) (hA : ∀ a : Nat, a < s.heap.size → ¬ A a) : ∀ i : Nat, ∃ sk : Nat, i < 15 → vk_R "HomeSystemModel$Program" (kix2 i) (ktx2 i) sk s ∧ StLt A sk (olen i) (oby i) s s.heap := by
  intro i
  match i with
  | 0 => obtain ⟨sk, st, h1, h2⟩ := st_p_136 (A := A) hN hts hA; exact ⟨sk, fun _ => ⟨h1, st, h2⟩⟩
  | 1 => obtain ⟨sk, st, h1, h2⟩ := st_p_138 (A := A) hN hts hA; exact ⟨sk, fun _ => ⟨h1, st, h2⟩⟩
  | 2 => obtain ⟨sk, st, h1, h2⟩ := st_p_140 (A := A) hN hts hA; exact ⟨sk, fun _ => ⟨h1, st, h2⟩⟩
  | 3 => obtain ⟨sk, st, h1, h2⟩ := st_p_142 (A := A) hN hts hA; exact ⟨sk, fun _ => ⟨h1, st, h2⟩⟩
  | 4 => obtain ⟨sk, st, h1, h2⟩ := st_p_144 (A := A) hN hts hA; exact ⟨sk, fun _ => ⟨h1, st, h2⟩⟩
  | 5 => obtain ⟨sk, st, h1, h2⟩ := st_p_146 (A := A) hN hts hA; exact ⟨sk, fun _ => ⟨h1, st, h2⟩⟩
  | 6 => obtain ⟨sk, st, h1, h2⟩ := st_p_148 (A := A) hN hts hA; exact ⟨sk, fun _ => ⟨h1, st, h2⟩⟩
  | 7 => obtain ⟨sk, st, h1, h2⟩ := st_p_150 (A := A) hN hts hA; exact ⟨sk, fun _ => ⟨h1, st, h2⟩⟩
  | 8 => obtain ⟨sk, st, h1, h2⟩ := st_p_152 (A := A) hN hts hA; exact ⟨sk, fun _ => ⟨h1, st, h2⟩⟩
  | 9 => obtain ⟨sk, st, h1, h2⟩ := st_p_154 (A := A) hN hts hA; exact ⟨sk, fun _ => ⟨h1, st, h2⟩⟩
  | 10 => obtain ⟨sk, st, h1, h2⟩ := st_p_156 (A := A) hN hts hA; exact ⟨sk, fun _ => ⟨h1, st, h2⟩⟩
  | 11 => obtain ⟨sk, st, h1, h2⟩ := st_p_158 (A := A) hN hts hA; exact ⟨sk, fun _ => ⟨h1, st, h2⟩⟩
  | 12 => obtain ⟨sk, st, h1, h2⟩ := st_p_160 (A := A) hN hts hA; exact ⟨sk, fun _ => ⟨h1, st, h2⟩⟩
  | 13 => obtain ⟨sk, st, h1, h2⟩ := st_p_162 (A := A) hN hts hA; exact ⟨sk, fun _ => ⟨h1, st, h2⟩⟩
  | 14 => obtain ⟨sk, st, h1, h2⟩ := st_p_164 (A := A) hN hts hA; exact ⟨sk, fun _ => ⟨h1, st, h2⟩⟩
  | n + 15 => exact ⟨0, fun h => absurd h (by omega)⟩
theorem fam_3 {args : Array Value} {s : State} {A : Nat → Prop} (hN : ∀ c ∈ NF, c.before args s = true) (hts : ∀ w ∈ lw_tbl, w.before args s = true) (hA : ∀ a : Nat, a < s.heap.size → ¬ A a) : ∀ i : Nat, ∃ sk : Nat, i < 15 → vk_R "HomeSystemModel$Program" (kix3 i) (ktx3 i) sk s ∧ ∃ st : Nat, oS A sk st (tlen i) (tby i) s s.heap := by
  intro i
  match i with
  | 0 => obtain ⟨sk, st, h1, h2⟩ := st_p_169 (A := A) hN hts hA; exact ⟨sk, fun _ => ⟨h1, st, h2⟩⟩
  | 1 => obtain ⟨sk, st, h1, h2⟩ := st_p_171 (A := A) hN hts hA; exact ⟨sk, fun _ => ⟨h1, st, h2⟩⟩
  | 2 => obtain ⟨sk, st, h1, h2⟩ := st_p_173 (A := A) hN hts hA; exact ⟨sk, fun _ => ⟨h1, st, h2⟩⟩
  | 3 => obtain ⟨sk, st, h1, h2⟩ := st_p_175 (A := A) hN hts hA; exact ⟨sk, fun _ => ⟨h1, st, h2⟩⟩
  | 4 => obtain ⟨sk, st, h1, h2⟩ := st_p_175 (A := A) hN hts hA; exact ⟨sk, fun _ => ⟨h1, st, h2⟩⟩
  | 5 => obtain ⟨sk, st, h1, h2⟩ := st_p_177 (A := A) hN hts hA; exact ⟨sk, fun _ => ⟨h1, st, h2⟩⟩
  | 6 => obtain ⟨sk, st, h1, h2⟩ := st_p_175 (A := A) hN hts hA; exact ⟨sk, fun _ => ⟨h1, st, h2⟩⟩
  | 7 => obtain ⟨sk, st, h1, h2⟩ := st_p_179 (A := A) hN hts hA; exact ⟨sk, fun _ => ⟨h1, st, h2⟩⟩
  | 8 => obtain ⟨sk, st, h1, h2⟩ := st_p_179 (A := A) hN hts hA; exact ⟨sk, fun _ => ⟨h1, st, h2⟩⟩
  | 9 => obtain ⟨sk, st, h1, h2⟩ := st_p_171 (A := A) hN hts hA; exact ⟨sk, fun _ => ⟨h1, st, h2⟩⟩
  | 10 => obtain ⟨sk, st, h1, h2⟩ := st_p_175 (A := A) hN hts hA; exact ⟨sk, fun _ => ⟨h1, st, h2⟩⟩
  | 11 => obtain ⟨sk, st, h1, h2⟩ := st_p_173 (A := A) hN hts hA; exact ⟨sk, fun _ => ⟨h1, st, h2⟩⟩
  | 12 => obtain ⟨sk, st, h1, h2⟩ := st_p_181 (A := A) hN hts hA; exact ⟨sk, fun _ => ⟨h1, st, h2⟩⟩
  | 13 => obtain ⟨sk, st, h1, h2⟩ := st_p_183 (A := A) hN hts hA; exact ⟨sk, fun _ => ⟨h1, st, h2⟩⟩
  | 14 => obtain ⟨sk, st, h1, h2⟩ := st_p_185 (A := A) hN hts hA; exact ⟨sk, fun _ => ⟨h1, st, h2⟩⟩
  | n + 15 => exact ⟨0, fun h => absurd h (by omega)⟩
theorem lit_m {args : Array Value} {s : State} {A : Nat → Prop} (hN : ∀ c ∈ NF, c.before args s = true) (hts : ∀ w ∈ lw_tbl, w.before args s = true) (hA : ∀ a : Nat, a < s.heap.size → ¬ A a) : ∀ q ∈ litM, ∃ sk, vk_R "HomeSystemModel$Program" q.1 q.2.1 sk s ∧ StLt A sk q.2.2 (lby q.2.1) s s.heap := by
  intro q hq
  simp only [litM, List.mem_cons, List.not_mem_nil, or_false] at hq
  rcases hq with rfl | rfl | rfl | rfl | rfl | rfl | rfl | rfl | rfl | rfl | rfl | rfl | rfl | rfl | rfl | rfl | rfl | rfl | rfl | rfl | rfl | rfl | rfl | rfl | rfl | rfl | rfl | rfl | rfl | rfl | rfl | rfl | rfl | rfl | rfl | rfl | rfl | rfl | rfl | rfl | rfl | rfl | rfl | rfl | rfl | rfl | rfl | rfl | rfl | rfl | rfl | rfl | rfl | rfl | rfl | rfl | rfl | rfl | rfl | rfl | rfl | rfl | rfl | rfl | rfl | rfl | rfl | rfl | rfl | rfl | rfl | rfl | rfl | rfl | rfl | rfl | rfl | rfl | rfl | rfl | rfl | rfl | rfl
  · obtain ⟨sk, st, h1, h2⟩ := st_p_11 (A := A) hN hts hA; exact ⟨sk, h1, st, oS_cg h2 (by decide +kernel)⟩
  · obtain ⟨sk, st, h1, h2⟩ := st_p_13 (A := A) hN hts hA; exact ⟨sk, h1, st, oS_cg h2 (by decide +kernel)⟩
  · obtain ⟨sk, st, h1, h2⟩ := st_p_15 (A := A) hN hts hA; exact ⟨sk, h1, st, oS_cg h2 (by decide +kernel)⟩
  · obtain ⟨sk, st, h1, h2⟩ := st_p_17 (A := A) hN hts hA; exact ⟨sk, h1, st, oS_cg h2 (by decide +kernel)⟩
  · obtain ⟨sk, st, h1, h2⟩ := st_p_19 (A := A) hN hts hA; exact ⟨sk, h1, st, oS_cg h2 (by decide +kernel)⟩
  · obtain ⟨sk, st, h1, h2⟩ := st_p_21 (A := A) hN hts hA; exact ⟨sk, h1, st, oS_cg h2 (by decide +kernel)⟩
  · obtain ⟨sk, st, h1, h2⟩ := st_p_23 (A := A) hN hts hA; exact ⟨sk, h1, st, oS_cg h2 (by decide +kernel)⟩
  · obtain ⟨sk, st, h1, h2⟩ := st_p_25 (A := A) hN hts hA; exact ⟨sk, h1, st, oS_cg h2 (by decide +kernel)⟩
  · obtain ⟨sk, st, h1, h2⟩ := st_p_27 (A := A) hN hts hA; exact ⟨sk, h1, st, oS_cg h2 (by decide +kernel)⟩
  · obtain ⟨sk, st, h1, h2⟩ := st_p_29 (A := A) hN hts hA; exact ⟨sk, h1, st, oS_cg h2 (by decide +kernel)⟩
  · obtain ⟨sk, st, h1, h2⟩ := st_p_31 (A := A) hN hts hA; exact ⟨sk, h1, st, oS_cg h2 (by decide +kernel)⟩
  · obtain ⟨sk, st, h1, h2⟩ := st_p_33 (A := A) hN hts hA; exact ⟨sk, h1, st, oS_cg h2 (by decide +kernel)⟩
  · obtain ⟨sk, st, h1, h2⟩ := st_p_35 (A := A) hN hts hA; exact ⟨sk, h1, st, oS_cg h2 (by decide +kernel)⟩
  · obtain ⟨sk, st, h1, h2⟩ := st_p_37 (A := A) hN hts hA; exact ⟨sk, h1, st, oS_cg h2 (by decide +kernel)⟩
  · obtain ⟨sk, st, h1, h2⟩ := st_p_39 (A := A) hN hts hA; exact ⟨sk, h1, st, oS_cg h2 (by decide +kernel)⟩
  · obtain ⟨sk, st, h1, h2⟩ := st_p_47 (A := A) hN hts hA; exact ⟨sk, h1, st, oS_cg h2 (by decide +kernel)⟩
  · obtain ⟨sk, st, h1, h2⟩ := st_p_49 (A := A) hN hts hA; exact ⟨sk, h1, st, oS_cg h2 (by decide +kernel)⟩
  · obtain ⟨sk, st, h1, h2⟩ := st_p_51 (A := A) hN hts hA; exact ⟨sk, h1, st, oS_cg h2 (by decide +kernel)⟩
  · obtain ⟨sk, st, h1, h2⟩ := st_p_53 (A := A) hN hts hA; exact ⟨sk, h1, st, oS_cg h2 (by decide +kernel)⟩
  · obtain ⟨sk, st, h1, h2⟩ := st_p_55 (A := A) hN hts hA; exact ⟨sk, h1, st, oS_cg h2 (by decide +kernel)⟩
  · obtain ⟨sk, st, h1, h2⟩ := st_p_57 (A := A) hN hts hA; exact ⟨sk, h1, st, oS_cg h2 (by decide +kernel)⟩
  · obtain ⟨sk, st, h1, h2⟩ := st_p_59 (A := A) hN hts hA; exact ⟨sk, h1, st, oS_cg h2 (by decide +kernel)⟩
  · obtain ⟨sk, st, h1, h2⟩ := st_p_61 (A := A) hN hts hA; exact ⟨sk, h1, st, oS_cg h2 (by decide +kernel)⟩
  · obtain ⟨sk, st, h1, h2⟩ := st_p_63 (A := A) hN hts hA; exact ⟨sk, h1, st, oS_cg h2 (by decide +kernel)⟩
  · obtain ⟨sk, st, h1, h2⟩ := st_p_65 (A := A) hN hts hA; exact ⟨sk, h1, st, oS_cg h2 (by decide +kernel)⟩
  · obtain ⟨sk, st, h1, h2⟩ := st_p_67 (A := A) hN hts hA; exact ⟨sk, h1, st, oS_cg h2 (by decide +kernel)⟩
  · obtain ⟨sk, st, h1, h2⟩ := st_p_69 (A := A) hN hts hA; exact ⟨sk, h1, st, oS_cg h2 (by decide +kernel)⟩
  · obtain ⟨sk, st, h1, h2⟩ := st_p_71 (A := A) hN hts hA; exact ⟨sk, h1, st, oS_cg h2 (by decide +kernel)⟩
  · obtain ⟨sk, st, h1, h2⟩ := st_p_73 (A := A) hN hts hA; exact ⟨sk, h1, st, oS_cg h2 (by decide +kernel)⟩
  · obtain ⟨sk, st, h1, h2⟩ := st_p_75 (A := A) hN hts hA; exact ⟨sk, h1, st, oS_cg h2 (by decide +kernel)⟩
  · obtain ⟨sk, st, h1, h2⟩ := st_p_77 (A := A) hN hts hA; exact ⟨sk, h1, st, oS_cg h2 (by decide +kernel)⟩
  · obtain ⟨sk, st, h1, h2⟩ := st_p_79 (A := A) hN hts hA; exact ⟨sk, h1, st, oS_cg h2 (by decide +kernel)⟩
  · obtain ⟨sk, st, h1, h2⟩ := st_p_81 (A := A) hN hts hA; exact ⟨sk, h1, st, oS_cg h2 (by decide +kernel)⟩
  · obtain ⟨sk, st, h1, h2⟩ := st_p_83 (A := A) hN hts hA; exact ⟨sk, h1, st, oS_cg h2 (by decide +kernel)⟩
  · obtain ⟨sk, st, h1, h2⟩ := st_p_85 (A := A) hN hts hA; exact ⟨sk, h1, st, oS_cg h2 (by decide +kernel)⟩
  · obtain ⟨sk, st, h1, h2⟩ := st_p_87 (A := A) hN hts hA; exact ⟨sk, h1, st, oS_cg h2 (by decide +kernel)⟩
  · obtain ⟨sk, st, h1, h2⟩ := st_p_89 (A := A) hN hts hA; exact ⟨sk, h1, st, oS_cg h2 (by decide +kernel)⟩
  · obtain ⟨sk, st, h1, h2⟩ := st_p_91 (A := A) hN hts hA; exact ⟨sk, h1, st, oS_cg h2 (by decide +kernel)⟩
  · obtain ⟨sk, st, h1, h2⟩ := st_p_93 (A := A) hN hts hA; exact ⟨sk, h1, st, oS_cg h2 (by decide +kernel)⟩
  · obtain ⟨sk, st, h1, h2⟩ := st_p_95 (A := A) hN hts hA; exact ⟨sk, h1, st, oS_cg h2 (by decide +kernel)⟩
  · obtain ⟨sk, st, h1, h2⟩ := st_p_97 (A := A) hN hts hA; exact ⟨sk, h1, st, oS_cg h2 (by decide +kernel)⟩
  · obtain ⟨sk, st, h1, h2⟩ := st_p_99 (A := A) hN hts hA; exact ⟨sk, h1, st, oS_cg h2 (by decide +kernel)⟩
  · obtain ⟨sk, st, h1, h2⟩ := st_p_101 (A := A) hN hts hA; exact ⟨sk, h1, st, oS_cg h2 (by decide +kernel)⟩
  · obtain ⟨sk, st, h1, h2⟩ := st_p_103 (A := A) hN hts hA; exact ⟨sk, h1, st, oS_cg h2 (by decide +kernel)⟩
  · obtain ⟨sk, st, h1, h2⟩ := st_p_105 (A := A) hN hts hA; exact ⟨sk, h1, st, oS_cg h2 (by decide +kernel)⟩
  · obtain ⟨sk, st, h1, h2⟩ := st_p_107 (A := A) hN hts hA; exact ⟨sk, h1, st, oS_cg h2 (by decide +kernel)⟩
  · obtain ⟨sk, st, h1, h2⟩ := st_p_109 (A := A) hN hts hA; exact ⟨sk, h1, st, oS_cg h2 (by decide +kernel)⟩
  · obtain ⟨sk, st, h1, h2⟩ := st_p_111 (A := A) hN hts hA; exact ⟨sk, h1, st, oS_cg h2 (by decide +kernel)⟩
  · obtain ⟨sk, st, h1, h2⟩ := st_p_113 (A := A) hN hts hA; exact ⟨sk, h1, st, oS_cg h2 (by decide +kernel)⟩
  · obtain ⟨sk, st, h1, h2⟩ := st_p_115 (A := A) hN hts hA; exact ⟨sk, h1, st, oS_cg h2 (by decide +kernel)⟩
  · obtain ⟨sk, st, h1, h2⟩ := st_p_117 (A := A) hN hts hA; exact ⟨sk, h1, st, oS_cg h2 (by decide +kernel)⟩
  · obtain ⟨sk, st, h1, h2⟩ := st_p_119 (A := A) hN hts hA; exact ⟨sk, h1, st, oS_cg h2 (by decide +kernel)⟩
  · obtain ⟨sk, st, h1, h2⟩ := st_p_121 (A := A) hN hts hA; exact ⟨sk, h1, st, oS_cg h2 (by decide +kernel)⟩
  · obtain ⟨sk, st, h1, h2⟩ := st_p_123 (A := A) hN hts hA; exact ⟨sk, h1, st, oS_cg h2 (by decide +kernel)⟩
  · obtain ⟨sk, st, h1, h2⟩ := st_p_125 (A := A) hN hts hA; exact ⟨sk, h1, st, oS_cg h2 (by decide +kernel)⟩
  · obtain ⟨sk, st, h1, h2⟩ := st_p_127 (A := A) hN hts hA; exact ⟨sk, h1, st, oS_cg h2 (by decide +kernel)⟩
  · obtain ⟨sk, st, h1, h2⟩ := st_p_129 (A := A) hN hts hA; exact ⟨sk, h1, st, oS_cg h2 (by decide +kernel)⟩
  · obtain ⟨sk, st, h1, h2⟩ := st_p_131 (A := A) hN hts hA; exact ⟨sk, h1, st, oS_cg h2 (by decide +kernel)⟩
  · obtain ⟨sk, st, h1, h2⟩ := st_p_136 (A := A) hN hts hA; exact ⟨sk, h1, st, oS_cg h2 (by decide +kernel)⟩
  · obtain ⟨sk, st, h1, h2⟩ := st_p_138 (A := A) hN hts hA; exact ⟨sk, h1, st, oS_cg h2 (by decide +kernel)⟩
  · obtain ⟨sk, st, h1, h2⟩ := st_p_140 (A := A) hN hts hA; exact ⟨sk, h1, st, oS_cg h2 (by decide +kernel)⟩
  · obtain ⟨sk, st, h1, h2⟩ := st_p_142 (A := A) hN hts hA; exact ⟨sk, h1, st, oS_cg h2 (by decide +kernel)⟩
  · obtain ⟨sk, st, h1, h2⟩ := st_p_144 (A := A) hN hts hA; exact ⟨sk, h1, st, oS_cg h2 (by decide +kernel)⟩
  · obtain ⟨sk, st, h1, h2⟩ := st_p_146 (A := A) hN hts hA; exact ⟨sk, h1, st, oS_cg h2 (by decide +kernel)⟩
  · obtain ⟨sk, st, h1, h2⟩ := st_p_148 (A := A) hN hts hA; exact ⟨sk, h1, st, oS_cg h2 (by decide +kernel)⟩
  · obtain ⟨sk, st, h1, h2⟩ := st_p_150 (A := A) hN hts hA; exact ⟨sk, h1, st, oS_cg h2 (by decide +kernel)⟩
  · obtain ⟨sk, st, h1, h2⟩ := st_p_152 (A := A) hN hts hA; exact ⟨sk, h1, st, oS_cg h2 (by decide +kernel)⟩
  · obtain ⟨sk, st, h1, h2⟩ := st_p_154 (A := A) hN hts hA; exact ⟨sk, h1, st, oS_cg h2 (by decide +kernel)⟩
  · obtain ⟨sk, st, h1, h2⟩ := st_p_156 (A := A) hN hts hA; exact ⟨sk, h1, st, oS_cg h2 (by decide +kernel)⟩
  · obtain ⟨sk, st, h1, h2⟩ := st_p_158 (A := A) hN hts hA; exact ⟨sk, h1, st, oS_cg h2 (by decide +kernel)⟩
  · obtain ⟨sk, st, h1, h2⟩ := st_p_160 (A := A) hN hts hA; exact ⟨sk, h1, st, oS_cg h2 (by decide +kernel)⟩
  · obtain ⟨sk, st, h1, h2⟩ := st_p_162 (A := A) hN hts hA; exact ⟨sk, h1, st, oS_cg h2 (by decide +kernel)⟩
  · obtain ⟨sk, st, h1, h2⟩ := st_p_164 (A := A) hN hts hA; exact ⟨sk, h1, st, oS_cg h2 (by decide +kernel)⟩
  · obtain ⟨sk, st, h1, h2⟩ := st_p_169 (A := A) hN hts hA; exact ⟨sk, h1, st, oS_cg h2 (by decide +kernel)⟩
  · obtain ⟨sk, st, h1, h2⟩ := st_p_171 (A := A) hN hts hA; exact ⟨sk, h1, st, oS_cg h2 (by decide +kernel)⟩
  · obtain ⟨sk, st, h1, h2⟩ := st_p_173 (A := A) hN hts hA; exact ⟨sk, h1, st, oS_cg h2 (by decide +kernel)⟩
  · obtain ⟨sk, st, h1, h2⟩ := st_p_175 (A := A) hN hts hA; exact ⟨sk, h1, st, oS_cg h2 (by decide +kernel)⟩
  · obtain ⟨sk, st, h1, h2⟩ := st_p_177 (A := A) hN hts hA; exact ⟨sk, h1, st, oS_cg h2 (by decide +kernel)⟩
  · obtain ⟨sk, st, h1, h2⟩ := st_p_179 (A := A) hN hts hA; exact ⟨sk, h1, st, oS_cg h2 (by decide +kernel)⟩
  · obtain ⟨sk, st, h1, h2⟩ := st_p_181 (A := A) hN hts hA; exact ⟨sk, h1, st, oS_cg h2 (by decide +kernel)⟩
  · obtain ⟨sk, st, h1, h2⟩ := st_p_183 (A := A) hN hts hA; exact ⟨sk, h1, st, oS_cg h2 (by decide +kernel)⟩
  · obtain ⟨sk, st, h1, h2⟩ := st_p_185 (A := A) hN hts hA; exact ⟨sk, h1, st, oS_cg h2 (by decide +kernel)⟩
  · obtain ⟨sk, st, h1, h2⟩ := st_p_688 (A := A) hN hts hA; exact ⟨sk, h1, st, oS_cg h2 (by decide +kernel)⟩
theorem lit_w {args : Array Value} {s : State} {A : Nat → Prop} (hN : ∀ c ∈ NF, c.before args s = true) (hts : ∀ w ∈ lw_tbl, w.before args s = true) (hA : ∀ a : Nat, a < s.heap.size → ¬ A a) : oLW A s s.heap := by
  intro q hq
  simp only [litW, List.mem_cons, List.not_mem_nil, or_false] at hq
  rcases hq with rfl | rfl
  · obtain ⟨sk, st, h1, h2⟩ := st_q_186 (A := A) hN hts hA; exact ⟨sk, h1, st, _, h2⟩
  · obtain ⟨sk, st, h1, h2⟩ := st_q_192 (A := A) hN hts hA; exact ⟨sk, h1, st, _, h2⟩
set_option maxRecDepth 100000 in
theorem o_Z {args : Array Value} {s : State} {A : Nat → Prop} (hN : ∀ c ∈ NF, c.before args s = true) (hts : ∀ w ∈ lw_tbl, w.before args s = true) (hA : ∀ a : Nat, a < s.heap.size → ¬ A a) : oZ A s s.heap := va_Zof (hts _ (List.mem_append_right _ m1_64n)) (hts _ (AL_in _ m1_3)) (va_eqi (hN _ (List.mem_of_getElem? (i := 2) rfl))) hA
set_option maxRecDepth 100000 in
theorem o_F {args : Array Value} {s : State} {A : Nat → Prop} (hN : ∀ c ∈ NF, c.before args s = true) (hts : ∀ w ∈ lw_tbl, w.before args s = true) (hA : ∀ a : Nat, a < s.heap.size → ¬ A a) : oF A s s.heap := va_Zqof (hts _ (List.mem_append_right _ m1_80n)) (hts _ (AL_in _ m1_5)) (hN _ (List.mem_of_getElem? (i := 3) rfl)) hA
set_option maxRecDepth 100000 in
theorem o_N {args : Array Value} {s : State} {A : Nat → Prop} (hN : ∀ c ∈ NF, c.before args s = true) (hts : ∀ w ∈ lw_tbl, w.before args s = true) (hA : ∀ a : Nat, a < s.heap.size → ¬ A a) : oN A s s.heap := ⟨⟨va_Zqof (hts _ (List.mem_append_right _ m3_82n)) (hts _ (AL_in _ m1_23)) (hN _ (List.mem_of_getElem? (i := 54) rfl)) hA, va_Zqof (hts _ (List.mem_append_right _ m3_84n)) (hts _ (AL_in _ m1_23)) (hN _ (List.mem_of_getElem? (i := 55) rfl)) hA⟩, va_Y_of (hts _ (List.mem_append_right _ m3_82n)) hA, va_Y_of (hts _ (List.mem_append_right _ m3_84n)) hA⟩
set_option maxRecDepth 100000 in
theorem o_E {args : Array Value} {s : State} {A : Nat → Prop} (hN : ∀ c ∈ NF, c.before args s = true) (hts : ∀ w ∈ lw_tbl, w.before args s = true) (hA : ∀ a : Nat, a < s.heap.size → ¬ A a) : ∃ em : Nat, oE A em s s.heap := by
  obtain ⟨t, ht, hT⟩ := va_Tof (N := 0) (f := fun _ => .null) (A := A) (by decide) (hN _ (List.mem_of_getElem? (i := 8) rfl)) (va_eqt (hN _ (List.mem_of_getElem? (i := 10) rfl))) (fun j hj => absurd hj (Nat.not_lt_zero _)) hA
  exact ⟨t, va_Zref (hts _ (List.mem_append_right _ m1_187n)) (hts _ (AL_in _ m1_10)) ht hA, hT⟩
set_option maxRecDepth 100000 in
theorem eg_GIVEN_WANTS : (NF.drop 11).take 17 = stW (.static "HomeSystem" "GIVEN_WANTS" "[I") [16, 1, 1, 1, 1, 1, 1, 1, 1, 1, 17, 1, 17, 1] := rfl
theorem og_GIVEN_WANTS {args : Array Value} {s : State} {A : Nat → Prop} (hN : ∀ c ∈ NF, c.before args s = true) (hts : ∀ w ∈ lw_tbl, w.before args s = true) (hA : ∀ a : Nat, a < s.heap.size → ¬ A a) : oGR "HomeSystem" "GIVEN_WANTS" 14 GWb A s s.heap := sta_of (bs := [16, 1, 1, 1, 1, 1, 1, 1, 1, 1, 17, 1, 17, 1]) (by decide) (hts _ (List.mem_append_right _ m1_201n)) (hts _ (AL_in _ m1_1)) (fun c h => hN c (nf_take eg_GIVEN_WANTS c h)) hA
set_option maxRecDepth 100000 in
theorem eg_GIVEN_TYPES : (NF.drop 28).take 13 = stW (.static "HomeSystem" "GIVEN_TYPES" "[I") [1, 3, 3, 1, 1, 1, 1, 3, 3, 3] := rfl
theorem og_GIVEN_TYPES {args : Array Value} {s : State} {A : Nat → Prop} (hN : ∀ c ∈ NF, c.before args s = true) (hts : ∀ w ∈ lw_tbl, w.before args s = true) (hA : ∀ a : Nat, a < s.heap.size → ¬ A a) : oGR "HomeSystem" "GIVEN_TYPES" 10 GTb A s s.heap := sta_of (bs := [1, 3, 3, 1, 1, 1, 1, 3, 3, 3]) (by decide) (hts _ (List.mem_append_right _ m2_3n)) (hts _ (AL_in _ m1_1)) (fun c h => hN c (nf_take eg_GIVEN_TYPES c h)) hA
set_option maxRecDepth 100000 in
theorem eg_GIVEN_COUNTS : (NF.drop 41).take 13 = stW (.static "HomeSystem" "GIVEN_COUNTS" "[I") [1, 1, 2, 1, 1, 2, 1, 2, 2, 1] := rfl
theorem og_GIVEN_COUNTS {args : Array Value} {s : State} {A : Nat → Prop} (hN : ∀ c ∈ NF, c.before args s = true) (hts : ∀ w ∈ lw_tbl, w.before args s = true) (hA : ∀ a : Nat, a < s.heap.size → ¬ A a) : oGR "HomeSystem" "GIVEN_COUNTS" 10 GCb A s s.heap := sta_of (bs := [1, 1, 2, 1, 1, 2, 1, 2, 2, 1]) (by decide) (hts _ (List.mem_append_right _ m2_5n)) (hts _ (AL_in _ m1_1)) (fun c h => hN c (nf_take eg_GIVEN_COUNTS c h)) hA
set_option maxRecDepth 100000 in
theorem o_M {args : Array Value} {s : State} {A : Nat → Prop} (hN : ∀ c ∈ NF, c.before args s = true) (hts : ∀ w ∈ lw_tbl, w.before args s = true) (hA : ∀ a : Nat, a < s.heap.size → ¬ A a) : ∃ mi : Nat, va_Mi "[Ljava/lang/Object;" mi s := va_Mi.of (hN _ (List.mem_of_getElem? (i := 367) rfl))
set_option maxRecDepth 100000 in
theorem sd_l0 : SDL = ([105, 110, 116, 32, 99, 104, 97, 114, 32, 118, 111, 105, 100, 32, 101, 110, 117, 109, 32, 105, 102, 32, 101, 108, 115, 101, 32, 119, 104, 105, 108, 101, 32, 100, 111, 32, 102, 111, 114, 32, 115, 119, 105, 116, 99, 104, 32, 99, 97, 115, 101, 32, 100, 101, 102, 97, 117, 108, 116, 32, 98, 114, 101, 97, 107, 32, 99, 111, 110, 116, 105, 110, 117, 101, 32, 114, 101, 116, 117, 114, 110, 32, 108, 101, 110, 32, 112, 117, 116, 32, 115, 101, 110, 100, 32, 114, 101, 99, 118, 32, 109, 111, 114, 101, 32, 115, 112, 97, 119, 110, 32, 119, 97, 105, 116, 32, 103, 101, 116, 32, 115, 101, 116, 32, 101, 110, 100, 32, 109, 97, 105, 110, 32] : List Int32).map Int32.toInt := by decide +kernel
theorem sd_l : ∀ (j : Nat) (c : Int), SDL[j]? = some c → ((fun j => ([105, 110, 116, 32, 99, 104, 97, 114, 32, 118, 111, 105, 100, 32, 101, 110, 117, 109, 32, 105, 102, 32, 101, 108, 115, 101, 32, 119, 104, 105, 108, 101, 32, 100, 111, 32, 102, 111, 114, 32, 115, 119, 105, 116, 99, 104, 32, 99, 97, 115, 101, 32, 100, 101, 102, 97, 117, 108, 116, 32, 98, 114, 101, 97, 107, 32, 99, 111, 110, 116, 105, 110, 117, 101, 32, 114, 101, 116, 117, 114, 110, 32, 108, 101, 110, 32, 112, 117, 116, 32, 115, 101, 110, 100, 32, 114, 101, 99, 118, 32, 109, 111, 114, 101, 32, 115, 112, 97, 119, 110, 32, 119, 97, 105, 116, 32, 103, 101, 116, 32, 115, 101, 116, 32, 101, 110, 100, 32, 109, 97, 105, 110, 32] : List Int32).getD j 0) j).toInt = c := fun j c h => by
  rw [sd_l0, List.getElem?_map] at h
  show (([105, 110, 116, 32, 99, 104, 97, 114, 32, 118, 111, 105, 100, 32, 101, 110, 117, 109, 32, 105, 102, 32, 101, 108, 115, 101, 32, 119, 104, 105, 108, 101, 32, 100, 111, 32, 102, 111, 114, 32, 115, 119, 105, 116, 99, 104, 32, 99, 97, 115, 101, 32, 100, 101, 102, 97, 117, 108, 116, 32, 98, 114, 101, 97, 107, 32, 99, 111, 110, 116, 105, 110, 117, 101, 32, 114, 101, 116, 117, 114, 110, 32, 108, 101, 110, 32, 112, 117, 116, 32, 115, 101, 110, 100, 32, 114, 101, 99, 118, 32, 109, 111, 114, 101, 32, 115, 112, 97, 119, 110, 32, 119, 97, 105, 116, 32, 103, 101, 116, 32, 115, 101, 116, 32, 101, 110, 100, 32, 109, 97, 105, 110, 32] : List Int32).getD j 0).toInt = c
  rw [List.getD_eq_getElem?_getD]
  cases hx : ([105, 110, 116, 32, 99, 104, 97, 114, 32, 118, 111, 105, 100, 32, 101, 110, 117, 109, 32, 105, 102, 32, 101, 108, 115, 101, 32, 119, 104, 105, 108, 101, 32, 100, 111, 32, 102, 111, 114, 32, 115, 119, 105, 116, 99, 104, 32, 99, 97, 115, 101, 32, 100, 101, 102, 97, 117, 108, 116, 32, 98, 114, 101, 97, 107, 32, 99, 111, 110, 116, 105, 110, 117, 101, 32, 114, 101, 116, 117, 114, 110, 32, 108, 101, 110, 32, 112, 117, 116, 32, 115, 101, 110, 100, 32, 114, 101, 99, 118, 32, 109, 111, 114, 101, 32, 115, 112, 97, 119, 110, 32, 119, 97, 105, 116, 32, 103, 101, 116, 32, 115, 101, 116, 32, 101, 110, 100, 32, 109, 97, 105, 110, 32] : List Int32)[j]? with
  | none => rw [hx] at h; cases h
  | some y => rw [hx] at h; cases h; rfl
set_option maxRecDepth 100000 in
theorem mk_l0 : MKL = ([40, 41, 123, 125, 91, 93, 44, 59, 58, 63, 61, 124, 94, 38, 60, 62, 43, 45, 42, 47, 37, 33, 126] : List Int32).map Int32.toInt := by decide +kernel
theorem mk_l : ∀ (j : Nat) (c : Int), MKL[j]? = some c → ((fun j => ([40, 41, 123, 125, 91, 93, 44, 59, 58, 63, 61, 124, 94, 38, 60, 62, 43, 45, 42, 47, 37, 33, 126] : List Int32).getD j 0) j).toInt = c := fun j c h => by
  rw [mk_l0, List.getElem?_map] at h
  show (([40, 41, 123, 125, 91, 93, 44, 59, 58, 63, 61, 124, 94, 38, 60, 62, 43, 45, 42, 47, 37, 33, 126] : List Int32).getD j 0).toInt = c
  rw [List.getD_eq_getElem?_getD]
  cases hx : ([40, 41, 123, 125, 91, 93, 44, 59, 58, 63, 61, 124, 94, 38, 60, 62, 43, 45, 42, 47, 37, 33, 126] : List Int32)[j]? with
  | none => rw [hx] at h; cases h
  | some y => rw [hx] at h; cases h; rfl
theorem mn_l : ∀ j : Nat, j < 4 → mnW[j]? = some ((fun j => ([109, 97, 105, 110] : List Int32).getD j 0) j).toInt := by decide +kernel
theorem lo_of {args : Array Value} {s : State} {A : Nat → Prop} (hN : ∀ c ∈ NF, c.before args s = true) (hts : ∀ w ∈ lw_tbl, w.before args s = true) (hA : ∀ a : Nat, a < s.heap.size → ¬ A a) {l : Launch} (hlf : l.flags = pinnedFlags ++ [noTraceFlag]) : ∃ (em mi gw sk st sn9 : Nat) (sb : Nat → Int32) (sK : Nat → Nat → Nat) (mk mt : Nat) (mb : Nat → Int32) (k2 t2 : Nat) (b2 : Nat → Int32), LO A s l em mi gw sk st sn9 sb sK mk mt mb ∧ (∀ (j : Nat) (c : Int), SDL[j]? = some c → (b2 j).toInt = c) ∧ (∀ z w : Int32, R_String_indexOf1 sn9 sb z w → 0 ≤ z.toInt → z.toInt ≤ 255 → (w.toInt < 0 ↔ isMk z.toInt = false)) ∧ (fun A U H => (oE A em U H) ∧ (va_Mi "[Ljava/lang/Object;" mi U) ∧ (oGI A U H) ∧ (vk_R "HomeSystem$Tokens" 21 "int char void enum if else while do for switch case default break continue return len put send recv more spawn wait get set end main " k2 U) ∧ (oF A U H) ∧ (oZ A U H) ∧ (oS A k2 t2 133 b2 U H)) A s s.heap := by
  obtain ⟨em, hE⟩ := o_E (A := A) hN hts hA
  obtain ⟨mi, hM⟩ := o_M (A := A) hN hts hA
  obtain ⟨sk, st, s1, s2⟩ := st_t_127 (A := A) hN hts hA
  obtain ⟨k2, t2, r1, r2⟩ := st_t_21 (A := A) hN hts hA
  obtain ⟨mk, mt, m1, m2⟩ := st_p_688 (A := A) hN hts hA
  obtain ⟨g0, q0⟩ := Classical.axiomOfChoice (fam_0 (A := A) hN hts hA)
  obtain ⟨g1, q1⟩ := Classical.axiomOfChoice (fam_1 (A := A) hN hts hA)
  obtain ⟨g2, q2⟩ := Classical.axiomOfChoice (fam_2 (A := A) hN hts hA)
  obtain ⟨g3, q3⟩ := Classical.axiomOfChoice (fam_3 (A := A) hN hts hA)
  have hZ := o_Z (A := A) hN hts hA; have hF := o_F (A := A) hN hts hA; have hNN := o_N (A := A) hN hts hA
  have hW := og_GIVEN_WANTS (A := A) hN hts hA
  obtain ⟨gw, w1, w2⟩ := hW
  have hK : oK (fun f i => match f with | 0 => g0 i | 1 => g1 i | 2 => g2 i | _ => g3 i) A s s.heap := ⟨hZ, hF, fun i hi => q1 i hi, fun i hi => q0 i hi, fun i hi => q2 i hi, fun i hi => q3 i hi, lit_m hN hts hA⟩
  exact ⟨em, mi, gw, sk, st, 23, _, _, mk, mt, _, k2, t2, _, ⟨hlf, ⟨hNN, hE, hM, ⟨w1, _, w2⟩, s1, hZ, s2⟩, by decide, hK, lit_w hN hts hA, ⟨m1, m2⟩, mn_l⟩, sd_l, marks_ok mk_l, ⟨hE, hM, ⟨⟨gw, w1, w2⟩, og_GIVEN_TYPES hN hts hA, og_GIVEN_COUNTS hN hts hA⟩, r1, hF, hZ, r2⟩⟩
