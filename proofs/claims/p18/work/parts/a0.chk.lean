theorem oz_70c2bdf1b6 {a0 : Int} (h0 : 0 ≤ a0) (h1 : ¬ a0 = (0 : Int)) : 1 ≤ a0 := by omega
theorem oz_9dc164894e {a0 a1 a2 a3 a4 a5 a6 : Int} (h0 : a0 = a1 + a2) (h1 : 0 ≤ a2) (h2 : a1 = a3) (h3 : 0 ≤ a3) (h4 : ¬ a4 ≤ a2) (h5 : a3 + a5 ≤ a6) (h6 : a4 = a5) (h7 : a6 ≤ 2048) : 0 ≤ a0 ∧ a0 < ((2048 : Nat) : Int) := by omega
theorem oz_c0c4791958 {a0 a2 : Int} {n1 : Nat} (h0 : 2049 - a2 < ((n1 + 1 : Nat) : Int)) (h1 : a0 = a2 + 1) : 2049 - a0 < (n1 : Int) := by omega
theorem oz_3e80f65ba7 {a0 a1 a2 : Int} (h0 : a1 + a2 ≤ a0) (h1 : 0 ≤ a1) (h2 : 0 ≤ a2) : 0 ≤ a0 := by omega
theorem oz_27a4de8aa9 {a0 a1 a2 a3 : Int} (h0 : a0 = a1) (h1 : a1 + a2 ≤ a3) (h2 : 0 ≤ a2) (h3 : a3 ≤ 2048) : a0 ≤ 4000 := by omega
theorem oz_3309f2ef92 {a0 a1 : Int} (h0 : a1 < a0) (h1 : -1 ≤ a1) : (-1 : Int) < a0 := by omega
theorem oz_3b6b5a6571 {a0 a1 a2 : Int} (h0 : ¬ a0 < a1) (h1 : 0 ≤ a1) (h2 : a0 < a2) (h3 : a2 ≤ 1100) : 0 ≤ a0 ∧ a0 < ((1100 : Nat) : Int) := by omega
theorem oz_47f2fa2286 {a0 a1 a2 : Int} (h0 : ¬ a1 < a2) (h1 : a1 < a2) : (-1 : Int) < a0 := by omega
theorem oz_695ad66b9c {a0 a1 a2 : Int} (h0 : a0 = a1 + (-1)) (h1 : ¬ a1 < a2) (h2 : 0 ≤ a2) : -1 ≤ a0 := by omega
theorem oz_017357d48a {a0 a1 : Int} (h0 : a0 = a1 - (1 : Int)) : a0 < a1 := by omega
theorem oz_3089bf86b0 {a0 a1 : Int} (h0 : a1 ≤ a0) (h1 : 0 ≤ a1) : (-1 : Int) < a0 := by omega
theorem oz_873c269565 {a0 a1 : Int} (h0 : 0 ≤ a0) (h1 : ¬ a1 ≤ a0) (h2 : a1 ≤ 260) : 0 ≤ a0 ∧ a0 < ((260 : Nat) : Int) := by omega
theorem oz_23de95dee2  : (-1 : Int) ≤ 9 := by omega
theorem oz_688ea215cd {a0 : Int} (h0 : 0 ≤ a0) (h1 : ¬ (10 : Int) ≤ a0) : 0 ≤ a0 ∧ a0 < ((15 : Nat) : Int) := by omega
theorem oz_8adaca66a3 {a0 a1 : Int} (h0 : a0 = a1 + 1) (h1 : ¬ (10 : Int) ≤ a1) : a0 ≤ 10 := by omega
theorem oz_6f9533fa33 {a0 a2 : Int} {n1 : Nat} (h0 : 10 - a2 < ((n1 + 1 : Nat) : Int)) (h1 : a0 = a2 + 1) : 10 - a0 < (n1 : Int) := by omega
theorem oz_0c093f6666 {a0 : Int} (h0 : ¬ (10 : Int) ≤ a0) : a0 ≤ 9 := by omega
theorem oz_2c9cd128cc {a0 a1 : Int} (h0 : 0 ≤ a0) (h1 : a0 < a1) (h2 : a1 ≤ 2100) : 0 ≤ a0 ∧ a0 < ((2100 : Nat) : Int) := by omega
theorem m10_18 : Cond.fieldLink "HomeSystemModel$Program" 522 "HomeSystemModel$Program" "wrong" "I" ∈ AL := AL_10 (List.mem_of_getElem? (i := 18) rfl) rfl
theorem m10_19 : Cond.fieldLink "HomeSystemModel$Program" 525 "HomeSystemModel$Program" "wrongToken" "I" ∈ AL := AL_10 (List.mem_of_getElem? (i := 19) rfl) rfl
theorem m10_23 : Cond.fieldLink "HomeSystemModel$Program" 246 "HomeSystemModel$Program" "knownToken" "[I" ∈ AL := AL_10 (List.mem_of_getElem? (i := 23) rfl) rfl
theorem m12_166 : Cond.methodLink "HomeSystemModel$Program" 531 ⟨"HomeSystemModel$Program", "sameName", "(II)Z"⟩ ∈ AL := AL_12 (List.mem_of_getElem? (i := 166) rfl) rfl
theorem m12_169 : Cond.code ⟨"HomeSystemModel$Program", "sameName", "(II)Z"⟩ prog_16_method_64_code 5 (Option.some FieldType.boolean) ∈ AL := AL_12 (List.mem_of_getElem? (i := 169) rfl) rfl
theorem ms_11_11 : Cond.selects "HomeSystemModel$Program" ⟨"HomeSystemModel$Program", "sameName", "(II)Z"⟩ ⟨"HomeSystemModel$Program", "sameName", "(II)Z"⟩ ∈ AL := AL_p (q := (⟨"HomeSystemModel$Program", "sameName", "(II)Z"⟩, 69)) (by unfold lw_privs; exact List.mem_append_right _ (List.mem_append_right _ (List.mem_append_right _ (List.mem_append_right _ (List.mem_append_right _ (List.mem_append_right _ (List.mem_append_right _ (List.mem_append_right _ (List.mem_append_right _ (List.mem_append_right _ (List.mem_append_left _ (List.mem_of_getElem? (i := 11) rfl))))))))))))
theorem m12_168 : Cond.instanceMethod ⟨"HomeSystemModel$Program", "sameName", "(II)Z"⟩ ∈ AL := AL_12 (List.mem_of_getElem? (i := 168) rfl) rfl
theorem m10_22 : Cond.fieldLink "HomeSystemModel$Program" 528 "HomeSystemModel$Program" "known" "I" ∈ AL := AL_10 (List.mem_of_getElem? (i := 22) rfl) rfl
theorem m10_27 : Cond.fieldLink "HomeSystemModel$Program" 535 "HomeSystemModel$Program" "functionCount" "I" ∈ AL := AL_10 (List.mem_of_getElem? (i := 27) rfl) rfl
theorem m10_28 : Cond.fieldLink "HomeSystemModel$Program" 255 "HomeSystemModel$Program" "functionNode" "[I" ∈ AL := AL_10 (List.mem_of_getElem? (i := 28) rfl) rfl
theorem m9_226 : Cond.fieldLink "HomeSystemModel$Program" 166 "HomeSystemModel$Program" "ownNames" "[Ljava/lang/String;" ∈ AL := AL_9 (List.mem_of_getElem? (i := 226) rfl) rfl
theorem m12_158 : Cond.methodLink "HomeSystemModel$Program" 538 ⟨"HomeSystemModel$Program", "isNamed", "(ILjava/lang/String;)Z"⟩ ∈ AL := AL_12 (List.mem_of_getElem? (i := 158) rfl) rfl
theorem m12_161 : Cond.code ⟨"HomeSystemModel$Program", "isNamed", "(ILjava/lang/String;)Z"⟩ prog_16_method_65_code 3 (Option.some FieldType.boolean) ∈ AL := AL_12 (List.mem_of_getElem? (i := 161) rfl) rfl
theorem ms_11_9 : Cond.selects "HomeSystemModel$Program" ⟨"HomeSystemModel$Program", "isNamed", "(ILjava/lang/String;)Z"⟩ ⟨"HomeSystemModel$Program", "isNamed", "(ILjava/lang/String;)Z"⟩ ∈ AL := AL_p (q := (⟨"HomeSystemModel$Program", "isNamed", "(ILjava/lang/String;)Z"⟩, 69)) (by unfold lw_privs; exact List.mem_append_right _ (List.mem_append_right _ (List.mem_append_right _ (List.mem_append_right _ (List.mem_append_right _ (List.mem_append_right _ (List.mem_append_right _ (List.mem_append_right _ (List.mem_append_right _ (List.mem_append_right _ (List.mem_append_left _ (List.mem_of_getElem? (i := 9) rfl))))))))))))
theorem m12_160 : Cond.instanceMethod ⟨"HomeSystemModel$Program", "isNamed", "(ILjava/lang/String;)Z"⟩ ∈ AL := AL_12 (List.mem_of_getElem? (i := 160) rfl) rfl
theorem m12_162 : Cond.methodLink "HomeSystemModel$Program" 541 ⟨"HomeSystemModel$Program", "findFunction", "(I)I"⟩ ∈ AL := AL_12 (List.mem_of_getElem? (i := 162) rfl) rfl
theorem m12_165 : Cond.code ⟨"HomeSystemModel$Program", "findFunction", "(I)I"⟩ prog_16_method_67_code 3 (Option.some FieldType.int) ∈ AL := AL_12 (List.mem_of_getElem? (i := 165) rfl) rfl
theorem ms_11_10 : Cond.selects "HomeSystemModel$Program" ⟨"HomeSystemModel$Program", "findFunction", "(I)I"⟩ ⟨"HomeSystemModel$Program", "findFunction", "(I)I"⟩ ∈ AL := AL_p (q := (⟨"HomeSystemModel$Program", "findFunction", "(I)I"⟩, 69)) (by unfold lw_privs; exact List.mem_append_right _ (List.mem_append_right _ (List.mem_append_right _ (List.mem_append_right _ (List.mem_append_right _ (List.mem_append_right _ (List.mem_append_right _ (List.mem_append_right _ (List.mem_append_right _ (List.mem_append_right _ (List.mem_append_left _ (List.mem_of_getElem? (i := 10) rfl))))))))))))
theorem m12_164 : Cond.instanceMethod ⟨"HomeSystemModel$Program", "findFunction", "(I)I"⟩ ∈ AL := AL_12 (List.mem_of_getElem? (i := 164) rfl) rfl
theorem m12_154 : Cond.methodLink "HomeSystemModel$Program" 544 ⟨"HomeSystemModel$Program", "findOwn", "(I)I"⟩ ∈ AL := AL_12 (List.mem_of_getElem? (i := 154) rfl) rfl
theorem m12_157 : Cond.code ⟨"HomeSystemModel$Program", "findOwn", "(I)I"⟩ prog_16_method_68_code 3 (Option.some FieldType.int) ∈ AL := AL_12 (List.mem_of_getElem? (i := 157) rfl) rfl
theorem ms_11_8 : Cond.selects "HomeSystemModel$Program" ⟨"HomeSystemModel$Program", "findOwn", "(I)I"⟩ ⟨"HomeSystemModel$Program", "findOwn", "(I)I"⟩ ∈ AL := AL_p (q := (⟨"HomeSystemModel$Program", "findOwn", "(I)I"⟩, 69)) (by unfold lw_privs; exact List.mem_append_right _ (List.mem_append_right _ (List.mem_append_right _ (List.mem_append_right _ (List.mem_append_right _ (List.mem_append_right _ (List.mem_append_right _ (List.mem_append_right _ (List.mem_append_right _ (List.mem_append_right _ (List.mem_append_left _ (List.mem_of_getElem? (i := 8) rfl))))))))))))
theorem m12_156 : Cond.instanceMethod ⟨"HomeSystemModel$Program", "findOwn", "(I)I"⟩ ∈ AL := AL_12 (List.mem_of_getElem? (i := 156) rfl) rfl
/-! THE CHECKER: what is wrong, what is known -/
def WrV (cf : Nat → Int32) (c : Int) : Prop := 0 ≤ (cf 30).toInt ∧ (0 < (cf 30).toInt → 0 ≤ (cf 31).toInt ∧ (cf 31).toInt < c)
/-- nothing but what is wrong, and the marks of constants, has changed; what was wrong is wrong -/
def KpE (cf cf' : Nat → Int32) : Prop := (∀ k : Nat, k ≠ 30 → k ≠ 31 → k ≠ 46 → k ≠ 47 → k ≠ 57 → cf' k = cf k) ∧ ((cf' 30).toInt = 0 → (cf 30).toInt = 0)
section KP
variable {cf cf1 cf2 : Nat → Int32} {v : Int32}
theorem KpE.rf : KpE cf cf := ⟨fun _ _ _ _ _ _ => rfl, id⟩
theorem KpE.tr (h : KpE cf cf1) (k : KpE cf1 cf2) : KpE cf cf2 := ⟨fun j a b c d e => (k.1 j a b c d e).trans (h.1 j a b c d e), fun z => h.2 (k.2 z)⟩
theorem KpE.u30 (h : KpE cf cf1) (hv : 1 ≤ v.toInt) : KpE cf (upd cf1 30 v) := ⟨fun j a b c d e => (pk_un a).trans (h.1 j a b c d e), fun z => by rw [pk_us] at z; omega⟩
theorem KpE.u31 (h : KpE cf cf1) : KpE cf (upd cf1 31 v) := ⟨fun j a b c d e => (pk_un b).trans (h.1 j a b c d e), fun z => h.2 (by rw [pk_un (by decide)] at z; exact z)⟩
theorem KpE.u46 (h : KpE cf cf1) : KpE cf (upd cf1 46 v) := ⟨fun j a b c d e => (pk_un c).trans (h.1 j a b c d e), fun z => h.2 (by rw [pk_un (by decide)] at z; exact z)⟩
theorem KpE.u47 (h : KpE cf cf1) : KpE cf (upd cf1 47 v) := ⟨fun j a b c d e => (pk_un d).trans (h.1 j a b c d e), fun z => h.2 (by rw [pk_un (by decide)] at z; exact z)⟩
theorem KpE.u57 (h : KpE cf cf1) : KpE cf (upd cf1 57 v) := ⟨fun j a b c d e => (pk_un e).trans (h.1 j a b c d e), fun z => h.2 (by rw [pk_un (by decide)] at z; exact z)⟩
theorem WrV.u {c : Int} {k : Nat} (h : WrV cf c) (h0 : 30 ≠ k) (h1 : 31 ≠ k) : WrV (upd cf k v) c := by
  unfold WrV; rw [pk_un h0, pk_un h1]; exact h
theorem wrv_b {c : Int} {t : Int32} (hv : 1 ≤ v.toInt) (h0 : 0 ≤ t.toInt) (h1 : t.toInt < c) : WrV (upd (upd cf 30 v) 31 t) c := by
  unfold WrV; rw [pk_un (by decide), pk_us, pk_us]; exact ⟨by omega, fun _ => ⟨h0, h1⟩⟩
end KP
/-- the tokens of what is known, and of the functions -/
def KnT (c : Int) (ca : Nat → Nat → Int32) (n : Int) : Prop := n ≤ 1100 ∧ ∀ i : Nat, (i : Int) < n → 0 ≤ (ca 34 i).toInt ∧ (ca 34 i).toInt < c
def FnT (c : Int) (na ca : Nat → Nat → Int32) (n : Int) : Prop := n ≤ 260 ∧ ∀ i : Nat, (i : Int) < n → (0 ≤ (ca 39 i).toInt ∧ (ca 39 i).toInt < 2100) ∧ 0 ≤ (na 15 (ca 39 i).toNatClampNeg).toInt ∧ (na 15 (ca 39 i).toNatClampNeg).toInt < c
theorem KnT.at {c n : Int} {ca : Nat → Nat → Int32} (h : KnT c ca n) {x z : Int32} (h0 : 0 ≤ x.toInt) (h1 : x.toInt < n) (e : z = ca 34 x.toNatClampNeg) : 0 ≤ z.toInt ∧ z.toInt < c := by
  rw [e]; exact h.2 _ (by have := cl_nat h0; omega)
theorem KnT.eq {c n n' : Int} {ca : Nat → Nat → Int32} (h : KnT c ca n) (e : n = n') : KnT c ca n' := e ▸ h
theorem FnT.eq {c n n' : Int} {na ca : Nat → Nat → Int32} (h : FnT c na ca n) (e : n = n') : FnT c na ca n' := e ▸ h
theorem FnT.at {c n : Int} {na ca : Nat → Nat → Int32} (h : FnT c na ca n) {x z : Int32} (h0 : 0 ≤ x.toInt) (h1 : x.toInt < n) (e : z = ca 39 x.toNatClampNeg) : (0 ≤ z.toInt ∧ z.toInt < 2100) ∧ 0 ≤ (na 15 z.toNatClampNeg).toInt ∧ (na 15 z.toNatClampNeg).toInt < c := by
  rw [e]; exact h.2 _ (by have := cl_nat h0; omega)
/-! NAMES that are the same -/
def SameN (ta : Nat → Nat → Int32) (s t : Int32) : Prop := sz ta s = sz ta t ∧ ∀ j : Nat, (j : Int) < sz ta s → ta 4 (bp ta s + j).toNat = ta 4 (bp ta t + j).toNat
def SmV (ta : Nat → Nat → Int32) (s t : Int32) (v : Int) : Prop := (v = 1 → SameN ta s t) ∧ (v = 0 → ¬ SameN ta s t)
def SmL (ta : Nat → Nat → Int32) (s t : Int32) (x i : Int) : Prop := (x = 1 → sz ta s = sz ta t ∧ ∀ j : Nat, (j : Int) < i → ta 4 (bp ta s + j).toNat = ta 4 (bp ta t + j).toNat) ∧ (x = 0 → ¬ SameN ta s t)
section SN
variable {ta : Nat → Nat → Int32} {s t : Int32} {x i : Int}
theorem sm_0 (h1 : x = 1 → sz ta s = sz ta t) (h0 : x = 0 → sz ta s ≠ sz ta t) : SmL ta s t x 0 := ⟨fun h => ⟨h1 h, fun j hj => absurd hj (by omega)⟩, fun h g => h0 h g.1⟩
theorem SmL.nx {y i' : Int} {a b z w : Int32} (h : SmL ta s t x i) (hx : x = 1) (h0 : 0 ≤ i) (hi : i < sz ta s) (ez : z = ta 4 a.toNatClampNeg) (ew : w = ta 4 b.toNatClampNeg) (ea : a.toInt = bp ta s + i) (eb : b.toInt = bp ta t + i) (hs : 0 ≤ bp ta s) (ht : 0 ≤ bp ta t) (h1 : y = 1 → z.toInt = w.toInt) (h2 : y = 0 → z.toInt ≠ w.toInt) (e : i' = i + 1) : SmL ta s t y i' := by
  first | have ca := cl_nat (x := a) ((oz_016f458179 ca)) | (have ca := cl_nat (x := a) (by first | exact oz_016f458179 ca | omega))
  first | have cb := cl_nat (x := b) ((oz_016f458179 cb)) | (have cb := cl_nat (x := b) (by first | exact oz_016f458179 cb | omega))
  have e1 : (bp ta s + ((i.toNat : Nat) : Int)).toNat = a.toNatClampNeg := by omega
  have e2 : (bp ta t + ((i.toNat : Nat) : Int)).toNat = b.toNatClampNeg := by omega
  obtain ⟨q1, q2⟩ := h.1 hx
  refine ⟨fun hy => ⟨q1, fun j hj => ?_⟩, fun hy g => ?_⟩
  · by_cases hj' : (j : Int) < i
    · exact q2 j hj'
    · have : j = i.toNat := by omega
      subst this
      rw [e1, e2, ← ez, ← ew]; exact i_eq.mpr (h1 hy)
  · have k := g.2 i.toNat (by omega)
    rw [e1, e2, ← ez, ← ew] at k
    exact h2 hy (by rw [k])
theorem SmL.e (h : SmL ta s t x i) (hi : x = 0 ∨ sz ta s ≤ i) : SmV ta s t x := ⟨fun hx => ⟨(h.1 hx).1, fun j hj => (h.1 hx).2 j (by omega)⟩, h.2⟩
end SN
/-- what find gives back -/
def FndV (ta ca : Nat → Nat → Int32) (n : Int) (t : Int32) (from_ v : Int) : Prop := (v = -1 ∧ ∀ j : Nat, from_ ≤ (j : Int) → (j : Int) < n → ¬ SameN ta (ca 34 j) t) ∨ (from_ ≤ v ∧ 0 ≤ v ∧ v < n ∧ SameN ta (ca 34 v.toNat) t ∧ ∀ j : Nat, v < (j : Int) → (j : Int) < n → ¬ SameN ta (ca 34 j) t)
def FnL (ta ca : Nat → Nat → Int32) (n : Int) (t : Int32) (x : Int) : Prop := ∀ j : Nat, x < (j : Int) → (j : Int) < n → ¬ SameN ta (ca 34 j) t
section FD
variable {ta ca : Nat → Nat → Int32} {n f : Int} {t x z v : Int32}
theorem fnl_0 {y : Int} (h : n ≤ y + 1) : FnL ta ca n t y := fun j a b => absurd b (by omega)
theorem FnL.s {y : Int} (h : FnL ta ca n t x.toInt) (e : z = ca 34 x.toNatClampNeg) (s : SmV ta z t v.toInt) (hv : v.toInt = 0) (h0 : 0 ≤ x.toInt) (hy : y = x.toInt - 1) : FnL ta ca n t y := fun j a b => by
  by_cases g : x.toInt < (j : Int)
  · exact h j g b
  · have hx := cl_nat h0
    have : j = x.toNatClampNeg := by omega
    subst this
    rw [← e]; exact s.2 hv
theorem fnd_some (h : FnL ta ca n t x.toInt) (e : z = ca 34 x.toNatClampNeg) (s : SmV ta z t v.toInt) (hv : v.toInt = 1) (h0 : f ≤ x.toInt) (hf : 0 ≤ f) (hn : x.toInt < n) : FndV ta ca n t f x.toInt := by
  first | have hx := cl_nat (x := x) ((oz_016f458179 hx)) | (have hx := cl_nat (x := x) (by first | exact oz_016f458179 hx | omega))
  have e1 : x.toInt.toNat = x.toNatClampNeg := by omega
  exact Or.inr ⟨h0, by omega, hn, by rw [e1, ← e]; exact s.1 hv, h⟩
theorem fnd_none {y : Int} (h : FnL ta ca n t y) (hy : y < f) : FndV ta ca n t f (-1) := Or.inl ⟨rfl, fun j a b => h j (by omega) b⟩
theorem FndV.uniq {v w : Int} (h : FndV ta ca n t f v) (k : FndV ta ca n t f w) : v = w := by
  rcases h with ⟨h1, h2⟩ | ⟨h1, h2, h3, h4, h5⟩ <;> rcases k with ⟨k1, k2⟩ | ⟨k1, k2, k3, k4, k5⟩
  · omega
  · exact absurd k4 (h2 w.toNat (by omega) (by omega))
  · exact absurd h4 (k2 v.toNat (by omega) (by omega))
  · by_cases e : v < w
    · exact absurd k4 (h5 w.toNat (by omega) (by omega))
    · by_cases e2 : w < v
      · exact absurd h4 (k5 v.toNat (by omega) (by omega))
      · omega
end FD
abbrev b_Mpg_bad : ByteArray := prog_16_method_63_code
def y_Mpg_bad : MethodName := ⟨"HomeSystemModel$Program", "bad", "(II)V"⟩
theorem d_Mpg_bad_0 : decode b_Mpg_bad 0 = .ok (.aload_n 0, 1) := by decide +kernel
theorem d_Mpg_bad_1 : decode b_Mpg_bad 1 = .ok (.getfield 522, 3) := by decide +kernel
theorem d_Mpg_bad_4 : decode b_Mpg_bad 4 = .ok (.ifCond .eq 27, 3) := by decide +kernel
theorem d_Mpg_bad_7 : decode b_Mpg_bad 7 = .ok (.iload_n 2, 1) := by decide +kernel
theorem d_Mpg_bad_8 : decode b_Mpg_bad 8 = .ok (.aload_n 0, 1) := by decide +kernel
theorem d_Mpg_bad_9 : decode b_Mpg_bad 9 = .ok (.getfield 525, 3) := by decide +kernel
theorem d_Mpg_bad_12 : decode b_Mpg_bad 12 = .ok (.if_icmp .lt 19, 3) := by decide +kernel
theorem d_Mpg_bad_15 : decode b_Mpg_bad 15 = .ok (.iload_n 2, 1) := by decide +kernel
theorem d_Mpg_bad_16 : decode b_Mpg_bad 16 = .ok (.aload_n 0, 1) := by decide +kernel
theorem d_Mpg_bad_17 : decode b_Mpg_bad 17 = .ok (.getfield 525, 3) := by decide +kernel
theorem d_Mpg_bad_20 : decode b_Mpg_bad 20 = .ok (.if_icmp .ne 21, 3) := by decide +kernel
theorem d_Mpg_bad_23 : decode b_Mpg_bad 23 = .ok (.iload_n 1, 1) := by decide +kernel
theorem d_Mpg_bad_24 : decode b_Mpg_bad 24 = .ok (.aload_n 0, 1) := by decide +kernel
theorem d_Mpg_bad_25 : decode b_Mpg_bad 25 = .ok (.getfield 522, 3) := by decide +kernel
theorem d_Mpg_bad_28 : decode b_Mpg_bad 28 = .ok (.if_icmp .ge 13, 3) := by decide +kernel
theorem d_Mpg_bad_31 : decode b_Mpg_bad 31 = .ok (.aload_n 0, 1) := by decide +kernel
theorem d_Mpg_bad_32 : decode b_Mpg_bad 32 = .ok (.iload_n 1, 1) := by decide +kernel
theorem d_Mpg_bad_33 : decode b_Mpg_bad 33 = .ok (.putfield 522, 3) := by decide +kernel
theorem d_Mpg_bad_36 : decode b_Mpg_bad 36 = .ok (.aload_n 0, 1) := by decide +kernel
theorem d_Mpg_bad_37 : decode b_Mpg_bad 37 = .ok (.iload_n 2, 1) := by decide +kernel
theorem d_Mpg_bad_38 : decode b_Mpg_bad 38 = .ok (.putfield 525, 3) := by decide +kernel
theorem d_Mpg_bad_41 : decode b_Mpg_bad 41 = .ok (.return_, 1) := by decide +kernel
theorem q_Mpg_bad : px_y y_Mpg_bad 2 := by unfold px_y; decide +kernel
set_option maxHeartbeats 4000000 in
set_option maxRecDepth 100000 in
theorem c_mp_bad (l : Launch) (D : va_G) (cs : Nat → ClassId) (h : Nat) (r : Nat → Nat) (g : Nat → Nat → Option Nat) (tf : Nat → Int32) (ta : Nat → Nat → Int32) (pf : Nat → Int32) (na : Nat → Nat → Int32) (ma : Nat → Nat → Int32) (wa : Nat → Nat → Int32) (ca : Nat → Nat → Int32) (ef : Nat → Int32) (ea : Nat → Nat → Int32) (xf : Nat → Int32) (xa : Nat → Nat → Int32) (cf : Nat → Int32) (p0 p1 : Int32)  (g0 : 1 ≤ p0.toInt) (g1 : 0 ≤ p1.toInt) (g2 : p1.toInt < (tf 6).toInt) (htk : TkI tf ta) (hwr : WrV cf (tf 6).toInt) : MetV l y_Mpg_bad b_Mpg_bad 3 D cs 0 0 (0) (0) [.ref h, .int p0, .int p1] [wdP cs h r g tf ta pf na ma wa cf ca ef ea xf xa] (fun _ => True) (fun ps => ∃ (cf' : Nat → Int32), (ps = [wdP cs h r g tf ta pf na ma wa cf' ca ef ea xf xa]) ∧ (KpE cf cf') ∧ (WrV cf' (tf 6).toInt) ∧ (1 ≤ (cf' 30).toInt) ∧ ((cf' 33).toInt = (cf 33).toInt) ∧ ((cf' 38).toInt = (cf 38).toInt) ∧ ((cf' 48).toInt = (cf 48).toInt) ∧ ((cf' 46).toInt = (cf 46).toInt) ∧ ((cf' 47).toInt = (cf 47).toInt) ∧ ((cf' 57).toInt = (cf 57).toInt) ∧ ((cf' 37).toInt = (cf 37).toInt) ∧ ((cf' 42).toInt = (cf 42).toInt) ∧ ((cf' 43).toInt = (cf 43).toInt) ∧ ((cf' 44).toInt = (cf 44).toInt) ∧ ((cf' 45).toInt = (cf 45).toInt) ∧ ((cf' 54).toInt = (cf 54).toInt) ∧ ((cf' 55).toInt = (cf 55).toInt) ∧ ((cf' 58).toInt = (cf 58).toInt) ∧ ((cf' 59).toInt = (cf 59).toInt) ∧ ((cf' 41).toInt = (cf 41).toInt) ∧ (R_mp_bad p0 p1 cf cf')) := by
  refine px_enter (by decide) (Nat.le_of_ble_eq_true rfl) ?_
  intro p e s m below meth c A ls hAe S hr hlk hnm hA hT hX hw hl
  have hl : lv_has ls 3 [(0, .ref h), (1, .int p0), (2, .int p1)] := hl
  have lp0 := Int32.le_toInt p0
  have up0 := Int32.toInt_lt p0
  have lp1 := Int32.le_toInt p1
  have up1 := Int32.toInt_lt p1
  have hke : KpE cf cf := KpE.rf
  have hwr0 := hwr.1
  refine lv_aload_n S.x S.b d_Mpg_bad_0 rfl (lv_at hl 0 rfl) ?_
  refine gP_30 (v := (cf 30)) S hT hw 0 rfl rfl m10_18 d_Mpg_bad_1 ?_
  refine lv_if_eq (tgt := 31) S.x S.b d_Mpg_bad_4 (by decide) (fun c1 => ?_) (fun c1 => ?_)
  · have nc1 : (cf 30).toInt = (0 : Int) := (i_eq (x := (cf 30)) (y := 0)).mp c1
    refine lv_aload_n S.x S.b d_Mpg_bad_31 rfl (lv_at hl 0 rfl) ?_
    refine lv_iload_n S.x S.b d_Mpg_bad_32 rfl (lv_at hl 1 rfl) ?_
    refine pP_30 S hT hw 0 rfl m10_18 rfl rfl rfl d_Mpg_bad_33 (ps' := [wdP cs h r g tf ta pf na ma wa (upd cf 30 p0) ca ef ea xf xa]) rfl (fun H locs hw => ?_)
    refine lv_aload_n S.x S.b d_Mpg_bad_36 rfl (lv_at hl 0 rfl) ?_
    refine lv_iload_n S.x S.b d_Mpg_bad_37 rfl (lv_at hl 2 rfl) ?_
    refine pP_31 S hT hw 0 rfl m10_19 rfl rfl rfl d_Mpg_bad_38 (ps' := [wdP cs h r g tf ta pf na ma wa (upd (upd cf 30 p0) 31 p1) ca ef ea xf xa]) rfl (fun H locs hw => ?_)
    first | exact px_vret S hr hlk hAe hw (Nat.le_of_ble_eq_true rfl) (Nat.le_of_ble_eq_true rfl) (⟨(upd (upd cf 30 p0) 31 p1), rfl, (show KpE cf (upd (upd cf 30 p0) 31 p1) from (KpE.u31 (KpE.u30 hke (by omega)))), (show WrV (upd (upd cf 30 p0) 31 p1) (tf 6).toInt from (wrv_b (by omega) (by omega) (by omega))), (show 1 ≤ p0.toInt from g0), (show (cf 33).toInt = (cf 33).toInt from rfl), (show (cf 38).toInt = (cf 38).toInt from rfl), (show (cf 48).toInt = (cf 48).toInt from rfl), (show (cf 46).toInt = (cf 46).toInt from rfl), (show (cf 47).toInt = (cf 47).toInt from rfl), (show (cf 57).toInt = (cf 57).toInt from rfl), (show (cf 37).toInt = (cf 37).toInt from rfl), (show (cf 42).toInt = (cf 42).toInt from rfl), (show (cf 43).toInt = (cf 43).toInt from rfl), (show (cf 44).toInt = (cf 44).toInt from rfl), (show (cf 45).toInt = (cf 45).toInt from rfl), (show (cf 54).toInt = (cf 54).toInt from rfl), (show (cf 55).toInt = (cf 55).toInt from rfl), (show (cf 58).toInt = (cf 58).toInt from rfl), (show (cf 59).toInt = (cf 59).toInt from rfl), (show (cf 41).toInt = (cf 41).toInt from rfl), (show R_mp_bad p0 p1 cf (upd (upd cf 30 p0) 31 p1) from (Or.inl (Or.inl ⟨nc1, rfl⟩)))⟩) d_Mpg_bad_41 | (exact px_vret S hr hlk hAe hw (Nat.le_of_ble_eq_true rfl) (Nat.le_of_ble_eq_true rfl) (⟨(upd (upd cf 30 p0) 31 p1), rfl, (show KpE cf (upd (upd cf 30 p0) 31 p1) from (KpE.u31 (KpE.u30 hke (by omega)))), (show WrV (upd (upd cf 30 p0) 31 p1) (tf 6).toInt from (wrv_b (by omega) (by omega) (by omega))), (show 1 ≤ p0.toInt from by first | exact g0 | omega), (show (cf 33).toInt = (cf 33).toInt from rfl), (show (cf 38).toInt = (cf 38).toInt from rfl), (show (cf 48).toInt = (cf 48).toInt from rfl), (show (cf 46).toInt = (cf 46).toInt from rfl), (show (cf 47).toInt = (cf 47).toInt from rfl), (show (cf 57).toInt = (cf 57).toInt from rfl), (show (cf 37).toInt = (cf 37).toInt from rfl), (show (cf 42).toInt = (cf 42).toInt from rfl), (show (cf 43).toInt = (cf 43).toInt from rfl), (show (cf 44).toInt = (cf 44).toInt from rfl), (show (cf 45).toInt = (cf 45).toInt from rfl), (show (cf 54).toInt = (cf 54).toInt from rfl), (show (cf 55).toInt = (cf 55).toInt from rfl), (show (cf 58).toInt = (cf 58).toInt from rfl), (show (cf 59).toInt = (cf 59).toInt from rfl), (show (cf 41).toInt = (cf 41).toInt from rfl), (show R_mp_bad p0 p1 cf (upd (upd cf 30 p0) 31 p1) from (Or.inl (Or.inl ⟨nc1, rfl⟩)))⟩) d_Mpg_bad_41)
  · have nc1 : ¬ (cf 30).toInt = (0 : Int) := mt (i_eq (x := (cf 30)) (y := 0)).mpr c1
    refine lv_iload_n S.x S.b d_Mpg_bad_7 rfl (lv_at hl 2 rfl) ?_
    refine lv_aload_n S.x S.b d_Mpg_bad_8 rfl (lv_at hl 0 rfl) ?_
    refine gP_31 (v := (cf 31)) S hT hw 0 rfl rfl m10_19 d_Mpg_bad_9 ?_
    refine lv_icmp_lt (tgt := 31) S.x S.b d_Mpg_bad_12 (by decide) (fun c3 => ?_) (fun c3 => ?_)
    · have nc3 : p1.toInt < (cf 31).toInt := (i_lt (x := p1) (y := (cf 31))).mp c3
      refine lv_aload_n S.x S.b d_Mpg_bad_31 rfl (lv_at hl 0 rfl) ?_
      refine lv_iload_n S.x S.b d_Mpg_bad_32 rfl (lv_at hl 1 rfl) ?_
      refine pP_30 S hT hw 0 rfl m10_18 rfl rfl rfl d_Mpg_bad_33 (ps' := [wdP cs h r g tf ta pf na ma wa (upd cf 30 p0) ca ef ea xf xa]) rfl (fun H locs hw => ?_)
      refine lv_aload_n S.x S.b d_Mpg_bad_36 rfl (lv_at hl 0 rfl) ?_
      refine lv_iload_n S.x S.b d_Mpg_bad_37 rfl (lv_at hl 2 rfl) ?_
      refine pP_31 S hT hw 0 rfl m10_19 rfl rfl rfl d_Mpg_bad_38 (ps' := [wdP cs h r g tf ta pf na ma wa (upd (upd cf 30 p0) 31 p1) ca ef ea xf xa]) rfl (fun H locs hw => ?_)
      first | exact px_vret S hr hlk hAe hw (Nat.le_of_ble_eq_true rfl) (Nat.le_of_ble_eq_true rfl) (⟨(upd (upd cf 30 p0) 31 p1), rfl, (show KpE cf (upd (upd cf 30 p0) 31 p1) from (KpE.u31 (KpE.u30 hke (by omega)))), (show WrV (upd (upd cf 30 p0) 31 p1) (tf 6).toInt from (wrv_b (by omega) (by omega) (by omega))), (show 1 ≤ p0.toInt from g0), (show (cf 33).toInt = (cf 33).toInt from rfl), (show (cf 38).toInt = (cf 38).toInt from rfl), (show (cf 48).toInt = (cf 48).toInt from rfl), (show (cf 46).toInt = (cf 46).toInt from rfl), (show (cf 47).toInt = (cf 47).toInt from rfl), (show (cf 57).toInt = (cf 57).toInt from rfl), (show (cf 37).toInt = (cf 37).toInt from rfl), (show (cf 42).toInt = (cf 42).toInt from rfl), (show (cf 43).toInt = (cf 43).toInt from rfl), (show (cf 44).toInt = (cf 44).toInt from rfl), (show (cf 45).toInt = (cf 45).toInt from rfl), (show (cf 54).toInt = (cf 54).toInt from rfl), (show (cf 55).toInt = (cf 55).toInt from rfl), (show (cf 58).toInt = (cf 58).toInt from rfl), (show (cf 59).toInt = (cf 59).toInt from rfl), (show (cf 41).toInt = (cf 41).toInt from rfl), (show R_mp_bad p0 p1 cf (upd (upd cf 30 p0) 31 p1) from (Or.inl (Or.inr ⟨nc1, Or.inl ⟨nc3, rfl⟩⟩)))⟩) d_Mpg_bad_41 | (exact px_vret S hr hlk hAe hw (Nat.le_of_ble_eq_true rfl) (Nat.le_of_ble_eq_true rfl) (⟨(upd (upd cf 30 p0) 31 p1), rfl, (show KpE cf (upd (upd cf 30 p0) 31 p1) from (KpE.u31 (KpE.u30 hke (by omega)))), (show WrV (upd (upd cf 30 p0) 31 p1) (tf 6).toInt from (wrv_b (by omega) (by omega) (by omega))), (show 1 ≤ p0.toInt from by first | exact g0 | omega), (show (cf 33).toInt = (cf 33).toInt from rfl), (show (cf 38).toInt = (cf 38).toInt from rfl), (show (cf 48).toInt = (cf 48).toInt from rfl), (show (cf 46).toInt = (cf 46).toInt from rfl), (show (cf 47).toInt = (cf 47).toInt from rfl), (show (cf 57).toInt = (cf 57).toInt from rfl), (show (cf 37).toInt = (cf 37).toInt from rfl), (show (cf 42).toInt = (cf 42).toInt from rfl), (show (cf 43).toInt = (cf 43).toInt from rfl), (show (cf 44).toInt = (cf 44).toInt from rfl), (show (cf 45).toInt = (cf 45).toInt from rfl), (show (cf 54).toInt = (cf 54).toInt from rfl), (show (cf 55).toInt = (cf 55).toInt from rfl), (show (cf 58).toInt = (cf 58).toInt from rfl), (show (cf 59).toInt = (cf 59).toInt from rfl), (show (cf 41).toInt = (cf 41).toInt from rfl), (show R_mp_bad p0 p1 cf (upd (upd cf 30 p0) 31 p1) from (Or.inl (Or.inr ⟨nc1, Or.inl ⟨nc3, rfl⟩⟩)))⟩) d_Mpg_bad_41)
    · have nc3 : ¬ p1.toInt < (cf 31).toInt := mt (i_lt (x := p1) (y := (cf 31))).mpr c3
      refine lv_iload_n S.x S.b d_Mpg_bad_15 rfl (lv_at hl 2 rfl) ?_
      refine lv_aload_n S.x S.b d_Mpg_bad_16 rfl (lv_at hl 0 rfl) ?_
      refine gP_31 (v := (cf 31)) S hT hw 0 rfl rfl m10_19 d_Mpg_bad_17 ?_
      refine lv_icmp_ne (tgt := 41) S.x S.b d_Mpg_bad_20 (by decide) (fun c5 => ?_) (fun c5 => ?_)
      · have nc5 : ¬ p1.toInt = (cf 31).toInt := mt (i_eq (x := p1) (y := (cf 31))).mpr c5
        first | exact px_vret S hr hlk hAe hw (Nat.le_of_ble_eq_true rfl) (Nat.le_of_ble_eq_true rfl) (⟨cf, rfl, (show KpE cf cf from hke), (show WrV cf (tf 6).toInt from hwr), (show 1 ≤ (cf 30).toInt from (oz_70c2bdf1b6 hwr0 nc1)), (show (cf 33).toInt = (cf 33).toInt from rfl), (show (cf 38).toInt = (cf 38).toInt from rfl), (show (cf 48).toInt = (cf 48).toInt from rfl), (show (cf 46).toInt = (cf 46).toInt from rfl), (show (cf 47).toInt = (cf 47).toInt from rfl), (show (cf 57).toInt = (cf 57).toInt from rfl), (show (cf 37).toInt = (cf 37).toInt from rfl), (show (cf 42).toInt = (cf 42).toInt from rfl), (show (cf 43).toInt = (cf 43).toInt from rfl), (show (cf 44).toInt = (cf 44).toInt from rfl), (show (cf 45).toInt = (cf 45).toInt from rfl), (show (cf 54).toInt = (cf 54).toInt from rfl), (show (cf 55).toInt = (cf 55).toInt from rfl), (show (cf 58).toInt = (cf 58).toInt from rfl), (show (cf 59).toInt = (cf 59).toInt from rfl), (show (cf 41).toInt = (cf 41).toInt from rfl), (show R_mp_bad p0 p1 cf cf from (Or.inl (Or.inr ⟨nc1, Or.inr ⟨nc3, Or.inl ⟨nc5, rfl⟩⟩⟩)))⟩) d_Mpg_bad_41 | (exact px_vret S hr hlk hAe hw (Nat.le_of_ble_eq_true rfl) (Nat.le_of_ble_eq_true rfl) (⟨cf, rfl, (show KpE cf cf from hke), (show WrV cf (tf 6).toInt from hwr), (show 1 ≤ (cf 30).toInt from by first | exact oz_70c2bdf1b6 hwr0 nc1 | omega), (show (cf 33).toInt = (cf 33).toInt from rfl), (show (cf 38).toInt = (cf 38).toInt from rfl), (show (cf 48).toInt = (cf 48).toInt from rfl), (show (cf 46).toInt = (cf 46).toInt from rfl), (show (cf 47).toInt = (cf 47).toInt from rfl), (show (cf 57).toInt = (cf 57).toInt from rfl), (show (cf 37).toInt = (cf 37).toInt from rfl), (show (cf 42).toInt = (cf 42).toInt from rfl), (show (cf 43).toInt = (cf 43).toInt from rfl), (show (cf 44).toInt = (cf 44).toInt from rfl), (show (cf 45).toInt = (cf 45).toInt from rfl), (show (cf 54).toInt = (cf 54).toInt from rfl), (show (cf 55).toInt = (cf 55).toInt from rfl), (show (cf 58).toInt = (cf 58).toInt from rfl), (show (cf 59).toInt = (cf 59).toInt from rfl), (show (cf 41).toInt = (cf 41).toInt from rfl), (show R_mp_bad p0 p1 cf cf from (Or.inl (Or.inr ⟨nc1, Or.inr ⟨nc3, Or.inl ⟨nc5, rfl⟩⟩⟩)))⟩) d_Mpg_bad_41)
      · have nc5 : p1.toInt = (cf 31).toInt := (i_eq (x := p1) (y := (cf 31))).mp c5
        refine lv_iload_n S.x S.b d_Mpg_bad_23 rfl (lv_at hl 1 rfl) ?_
        refine lv_aload_n S.x S.b d_Mpg_bad_24 rfl (lv_at hl 0 rfl) ?_
        refine gP_30 (v := (cf 30)) S hT hw 0 rfl rfl m10_18 d_Mpg_bad_25 ?_
        refine lv_icmp_ge (tgt := 41) S.x S.b d_Mpg_bad_28 (by decide) (fun c7 => ?_) (fun c7 => ?_)
        · have nc7 : (cf 30).toInt ≤ p0.toInt := (i_le (x := (cf 30)) (y := p0)).mp c7
          first | exact px_vret S hr hlk hAe hw (Nat.le_of_ble_eq_true rfl) (Nat.le_of_ble_eq_true rfl) (⟨cf, rfl, (show KpE cf cf from hke), (show WrV cf (tf 6).toInt from hwr), (show 1 ≤ (cf 30).toInt from (oz_70c2bdf1b6 hwr0 nc1)), (show (cf 33).toInt = (cf 33).toInt from rfl), (show (cf 38).toInt = (cf 38).toInt from rfl), (show (cf 48).toInt = (cf 48).toInt from rfl), (show (cf 46).toInt = (cf 46).toInt from rfl), (show (cf 47).toInt = (cf 47).toInt from rfl), (show (cf 57).toInt = (cf 57).toInt from rfl), (show (cf 37).toInt = (cf 37).toInt from rfl), (show (cf 42).toInt = (cf 42).toInt from rfl), (show (cf 43).toInt = (cf 43).toInt from rfl), (show (cf 44).toInt = (cf 44).toInt from rfl), (show (cf 45).toInt = (cf 45).toInt from rfl), (show (cf 54).toInt = (cf 54).toInt from rfl), (show (cf 55).toInt = (cf 55).toInt from rfl), (show (cf 58).toInt = (cf 58).toInt from rfl), (show (cf 59).toInt = (cf 59).toInt from rfl), (show (cf 41).toInt = (cf 41).toInt from rfl), (show R_mp_bad p0 p1 cf cf from (Or.inl (Or.inr ⟨nc1, Or.inr ⟨nc3, Or.inr ⟨nc5, Or.inl ⟨nc7, rfl⟩⟩⟩⟩)))⟩) d_Mpg_bad_41 | (exact px_vret S hr hlk hAe hw (Nat.le_of_ble_eq_true rfl) (Nat.le_of_ble_eq_true rfl) (⟨cf, rfl, (show KpE cf cf from hke), (show WrV cf (tf 6).toInt from hwr), (show 1 ≤ (cf 30).toInt from by first | exact oz_70c2bdf1b6 hwr0 nc1 | omega), (show (cf 33).toInt = (cf 33).toInt from rfl), (show (cf 38).toInt = (cf 38).toInt from rfl), (show (cf 48).toInt = (cf 48).toInt from rfl), (show (cf 46).toInt = (cf 46).toInt from rfl), (show (cf 47).toInt = (cf 47).toInt from rfl), (show (cf 57).toInt = (cf 57).toInt from rfl), (show (cf 37).toInt = (cf 37).toInt from rfl), (show (cf 42).toInt = (cf 42).toInt from rfl), (show (cf 43).toInt = (cf 43).toInt from rfl), (show (cf 44).toInt = (cf 44).toInt from rfl), (show (cf 45).toInt = (cf 45).toInt from rfl), (show (cf 54).toInt = (cf 54).toInt from rfl), (show (cf 55).toInt = (cf 55).toInt from rfl), (show (cf 58).toInt = (cf 58).toInt from rfl), (show (cf 59).toInt = (cf 59).toInt from rfl), (show (cf 41).toInt = (cf 41).toInt from rfl), (show R_mp_bad p0 p1 cf cf from (Or.inl (Or.inr ⟨nc1, Or.inr ⟨nc3, Or.inr ⟨nc5, Or.inl ⟨nc7, rfl⟩⟩⟩⟩)))⟩) d_Mpg_bad_41)
        · have nc7 : ¬ (cf 30).toInt ≤ p0.toInt := mt (i_le (x := (cf 30)) (y := p0)).mpr c7
          refine lv_aload_n S.x S.b d_Mpg_bad_31 rfl (lv_at hl 0 rfl) ?_
          refine lv_iload_n S.x S.b d_Mpg_bad_32 rfl (lv_at hl 1 rfl) ?_
          refine pP_30 S hT hw 0 rfl m10_18 rfl rfl rfl d_Mpg_bad_33 (ps' := [wdP cs h r g tf ta pf na ma wa (upd cf 30 p0) ca ef ea xf xa]) rfl (fun H locs hw => ?_)
          refine lv_aload_n S.x S.b d_Mpg_bad_36 rfl (lv_at hl 0 rfl) ?_
          refine lv_iload_n S.x S.b d_Mpg_bad_37 rfl (lv_at hl 2 rfl) ?_
          refine pP_31 S hT hw 0 rfl m10_19 rfl rfl rfl d_Mpg_bad_38 (ps' := [wdP cs h r g tf ta pf na ma wa (upd (upd cf 30 p0) 31 p1) ca ef ea xf xa]) rfl (fun H locs hw => ?_)
          first | exact px_vret S hr hlk hAe hw (Nat.le_of_ble_eq_true rfl) (Nat.le_of_ble_eq_true rfl) (⟨(upd (upd cf 30 p0) 31 p1), rfl, (show KpE cf (upd (upd cf 30 p0) 31 p1) from (KpE.u31 (KpE.u30 hke (by omega)))), (show WrV (upd (upd cf 30 p0) 31 p1) (tf 6).toInt from (wrv_b (by omega) (by omega) (by omega))), (show 1 ≤ p0.toInt from g0), (show (cf 33).toInt = (cf 33).toInt from rfl), (show (cf 38).toInt = (cf 38).toInt from rfl), (show (cf 48).toInt = (cf 48).toInt from rfl), (show (cf 46).toInt = (cf 46).toInt from rfl), (show (cf 47).toInt = (cf 47).toInt from rfl), (show (cf 57).toInt = (cf 57).toInt from rfl), (show (cf 37).toInt = (cf 37).toInt from rfl), (show (cf 42).toInt = (cf 42).toInt from rfl), (show (cf 43).toInt = (cf 43).toInt from rfl), (show (cf 44).toInt = (cf 44).toInt from rfl), (show (cf 45).toInt = (cf 45).toInt from rfl), (show (cf 54).toInt = (cf 54).toInt from rfl), (show (cf 55).toInt = (cf 55).toInt from rfl), (show (cf 58).toInt = (cf 58).toInt from rfl), (show (cf 59).toInt = (cf 59).toInt from rfl), (show (cf 41).toInt = (cf 41).toInt from rfl), (show R_mp_bad p0 p1 cf (upd (upd cf 30 p0) 31 p1) from (Or.inl (Or.inr ⟨nc1, Or.inr ⟨nc3, Or.inr ⟨nc5, Or.inr ⟨nc7, rfl⟩⟩⟩⟩)))⟩) d_Mpg_bad_41 | (exact px_vret S hr hlk hAe hw (Nat.le_of_ble_eq_true rfl) (Nat.le_of_ble_eq_true rfl) (⟨(upd (upd cf 30 p0) 31 p1), rfl, (show KpE cf (upd (upd cf 30 p0) 31 p1) from (KpE.u31 (KpE.u30 hke (by omega)))), (show WrV (upd (upd cf 30 p0) 31 p1) (tf 6).toInt from (wrv_b (by omega) (by omega) (by omega))), (show 1 ≤ p0.toInt from by first | exact g0 | omega), (show (cf 33).toInt = (cf 33).toInt from rfl), (show (cf 38).toInt = (cf 38).toInt from rfl), (show (cf 48).toInt = (cf 48).toInt from rfl), (show (cf 46).toInt = (cf 46).toInt from rfl), (show (cf 47).toInt = (cf 47).toInt from rfl), (show (cf 57).toInt = (cf 57).toInt from rfl), (show (cf 37).toInt = (cf 37).toInt from rfl), (show (cf 42).toInt = (cf 42).toInt from rfl), (show (cf 43).toInt = (cf 43).toInt from rfl), (show (cf 44).toInt = (cf 44).toInt from rfl), (show (cf 45).toInt = (cf 45).toInt from rfl), (show (cf 54).toInt = (cf 54).toInt from rfl), (show (cf 55).toInt = (cf 55).toInt from rfl), (show (cf 58).toInt = (cf 58).toInt from rfl), (show (cf 59).toInt = (cf 59).toInt from rfl), (show (cf 41).toInt = (cf 41).toInt from rfl), (show R_mp_bad p0 p1 cf (upd (upd cf 30 p0) 31 p1) from (Or.inl (Or.inr ⟨nc1, Or.inr ⟨nc3, Or.inr ⟨nc5, Or.inr ⟨nc7, rfl⟩⟩⟩⟩)))⟩) d_Mpg_bad_41)
abbrev b_Mpg_sameName : ByteArray := prog_16_method_64_code
def y_Mpg_sameName : MethodName := ⟨"HomeSystemModel$Program", "sameName", "(II)Z"⟩
theorem d_Mpg_sameName_0 : decode b_Mpg_sameName 0 = .ok (.aload_n 0, 1) := by decide +kernel
theorem d_Mpg_sameName_1 : decode b_Mpg_sameName 1 = .ok (.getfield 198, 3) := by decide +kernel
theorem d_Mpg_sameName_4 : decode b_Mpg_sameName 4 = .ok (.iload_n 1, 1) := by decide +kernel
theorem d_Mpg_sameName_5 : decode b_Mpg_sameName 5 = .ok (.iaload, 1) := by decide +kernel
theorem d_Mpg_sameName_6 : decode b_Mpg_sameName 6 = .ok (.aload_n 0, 1) := by decide +kernel
theorem d_Mpg_sameName_7 : decode b_Mpg_sameName 7 = .ok (.getfield 198, 3) := by decide +kernel
theorem d_Mpg_sameName_10 : decode b_Mpg_sameName 10 = .ok (.iload_n 2, 1) := by decide +kernel
theorem d_Mpg_sameName_11 : decode b_Mpg_sameName 11 = .ok (.iaload, 1) := by decide +kernel
theorem d_Mpg_sameName_12 : decode b_Mpg_sameName 12 = .ok (.if_icmp .ne 7, 3) := by decide +kernel
theorem d_Mpg_sameName_15 : decode b_Mpg_sameName 15 = .ok (.iconst 1, 1) := by decide +kernel
theorem d_Mpg_sameName_16 : decode b_Mpg_sameName 16 = .ok (.goto 4, 3) := by decide +kernel
theorem d_Mpg_sameName_19 : decode b_Mpg_sameName 19 = .ok (.iconst 0, 1) := by decide +kernel
theorem d_Mpg_sameName_20 : decode b_Mpg_sameName 20 = .ok (.istore_n 3, 1) := by decide +kernel
theorem d_Mpg_sameName_21 : decode b_Mpg_sameName 21 = .ok (.iconst 0, 1) := by decide +kernel
theorem d_Mpg_sameName_22 : decode b_Mpg_sameName 22 = .ok (.istore 4, 2) := by decide +kernel
theorem d_Mpg_sameName_24 : decode b_Mpg_sameName 24 = .ok (.iload 4, 2) := by decide +kernel
theorem d_Mpg_sameName_26 : decode b_Mpg_sameName 26 = .ok (.aload_n 0, 1) := by decide +kernel
theorem d_Mpg_sameName_27 : decode b_Mpg_sameName 27 = .ok (.getfield 198, 3) := by decide +kernel
theorem d_Mpg_sameName_30 : decode b_Mpg_sameName 30 = .ok (.iload_n 1, 1) := by decide +kernel
theorem d_Mpg_sameName_31 : decode b_Mpg_sameName 31 = .ok (.iaload, 1) := by decide +kernel
theorem d_Mpg_sameName_32 : decode b_Mpg_sameName 32 = .ok (.if_icmp .ge 50, 3) := by decide +kernel
theorem d_Mpg_sameName_35 : decode b_Mpg_sameName 35 = .ok (.iload_n 3, 1) := by decide +kernel
theorem d_Mpg_sameName_36 : decode b_Mpg_sameName 36 = .ok (.ifCond .eq 46, 3) := by decide +kernel
theorem d_Mpg_sameName_39 : decode b_Mpg_sameName 39 = .ok (.aload_n 0, 1) := by decide +kernel
theorem d_Mpg_sameName_40 : decode b_Mpg_sameName 40 = .ok (.getfield 190, 3) := by decide +kernel
theorem d_Mpg_sameName_43 : decode b_Mpg_sameName 43 = .ok (.aload_n 0, 1) := by decide +kernel
theorem d_Mpg_sameName_44 : decode b_Mpg_sameName 44 = .ok (.getfield 194, 3) := by decide +kernel
theorem d_Mpg_sameName_47 : decode b_Mpg_sameName 47 = .ok (.iload_n 1, 1) := by decide +kernel
theorem d_Mpg_sameName_48 : decode b_Mpg_sameName 48 = .ok (.iaload, 1) := by decide +kernel
theorem d_Mpg_sameName_49 : decode b_Mpg_sameName 49 = .ok (.iload 4, 2) := by decide +kernel
theorem d_Mpg_sameName_51 : decode b_Mpg_sameName 51 = .ok (.iadd, 1) := by decide +kernel
theorem d_Mpg_sameName_52 : decode b_Mpg_sameName 52 = .ok (.baload, 1) := by decide +kernel
theorem d_Mpg_sameName_53 : decode b_Mpg_sameName 53 = .ok (.aload_n 0, 1) := by decide +kernel
theorem d_Mpg_sameName_54 : decode b_Mpg_sameName 54 = .ok (.getfield 190, 3) := by decide +kernel
theorem d_Mpg_sameName_57 : decode b_Mpg_sameName 57 = .ok (.aload_n 0, 1) := by decide +kernel
theorem d_Mpg_sameName_58 : decode b_Mpg_sameName 58 = .ok (.getfield 194, 3) := by decide +kernel
theorem d_Mpg_sameName_61 : decode b_Mpg_sameName 61 = .ok (.iload_n 2, 1) := by decide +kernel
theorem d_Mpg_sameName_62 : decode b_Mpg_sameName 62 = .ok (.iaload, 1) := by decide +kernel
theorem d_Mpg_sameName_63 : decode b_Mpg_sameName 63 = .ok (.iload 4, 2) := by decide +kernel
theorem d_Mpg_sameName_65 : decode b_Mpg_sameName 65 = .ok (.iadd, 1) := by decide +kernel
theorem d_Mpg_sameName_66 : decode b_Mpg_sameName 66 = .ok (.baload, 1) := by decide +kernel
theorem d_Mpg_sameName_67 : decode b_Mpg_sameName 67 = .ok (.if_icmp .ne 7, 3) := by decide +kernel
theorem d_Mpg_sameName_70 : decode b_Mpg_sameName 70 = .ok (.iconst 1, 1) := by decide +kernel
theorem d_Mpg_sameName_71 : decode b_Mpg_sameName 71 = .ok (.goto 4, 3) := by decide +kernel
theorem d_Mpg_sameName_74 : decode b_Mpg_sameName 74 = .ok (.iconst 0, 1) := by decide +kernel
theorem d_Mpg_sameName_75 : decode b_Mpg_sameName 75 = .ok (.istore_n 3, 1) := by decide +kernel
theorem d_Mpg_sameName_76 : decode b_Mpg_sameName 76 = .ok (.iinc 4 1, 3) := by decide +kernel
theorem d_Mpg_sameName_79 : decode b_Mpg_sameName 79 = .ok (.goto (-55), 3) := by decide +kernel
theorem d_Mpg_sameName_82 : decode b_Mpg_sameName 82 = .ok (.iload_n 3, 1) := by decide +kernel
theorem d_Mpg_sameName_83 : decode b_Mpg_sameName 83 = .ok (.ireturn, 1) := by decide +kernel
theorem q_Mpg_sameName : px_y y_Mpg_sameName 2 := by unfold px_y; decide +kernel
set_option maxHeartbeats 4000000 in
set_option maxRecDepth 100000 in
theorem c_mp_sameName (l : Launch) (D : va_G) (cs : Nat → ClassId) (h : Nat) (r : Nat → Nat) (g : Nat → Nat → Option Nat) (tf : Nat → Int32) (ta : Nat → Nat → Int32) (pf : Nat → Int32) (na : Nat → Nat → Int32) (ma : Nat → Nat → Int32) (wa : Nat → Nat → Int32) (cf : Nat → Int32) (ca : Nat → Nat → Int32) (ef : Nat → Int32) (ea : Nat → Nat → Int32) (xf : Nat → Int32) (xa : Nat → Nat → Int32) (p0 p1 : Int32)  (g0 : 0 ≤ p0.toInt) (g1 : p0.toInt < (tf 6).toInt) (g2 : 0 ≤ p1.toInt) (g3 : p1.toInt < (tf 6).toInt) (g4 : (tf 6).toInt ≤ 2049) (htk : TkI tf ta) : MetI l y_Mpg_sameName b_Mpg_sameName 5 (.boolean) D cs 0 0 (0) (0) [.ref h, .int p0, .int p1] [wdP cs h r g tf ta pf na ma wa cf ca ef ea xf xa] (fun _ => True) (fun v ps => (ps = [wdP cs h r g tf ta pf na ma wa cf ca ef ea xf xa]) ∧ (v = 0 ∨ v = 1) ∧ (SmV ta p0 p1 v.toInt) ∧ (R_mp_sameName ta p0 p1 v)) := by
  refine px_enter (by decide) (Nat.le_of_ble_eq_true rfl) ?_
  intro p e s m below meth c A ls hAe S hr hlk hnm hA hT hX hw hl
  have hl : lv_has ls 5 [(0, .ref h), (1, .int p0), (2, .int p1)] := hl
  have lp0 := Int32.le_toInt p0
  have up0 := Int32.toInt_lt p0
  have lp1 := Int32.le_toInt p1
  have up1 := Int32.toInt_lt p1
  have cst0 : (0 : Int32).toInt = 0 := rfl
  have cst1 : (1 : Int32).toInt = 1 := rfl
  have hb_p0 := tk_b htk (x := p0) (by omega) (by omega)
  have hb_p1 := tk_b htk (x := p1) (by omega) (by omega)
  have J24 : ∀ (n_24 : Nat)  (x24_3 x24_4 : Int32) (H : Heap) (locs : List Loc) (ls : Array Slot), (0 ≤ x24_3.toInt) → (x24_3.toInt ≤ 1) → (0 ≤ x24_4.toInt) → (x24_4.toInt ≤ sz ta p0) → (x24_3.toInt = 1 → sz ta p0 = sz ta p1) → (SmL ta p0 p1 x24_3.toInt x24_4.toInt) → (K_mp_sameName_24 ta p0 p1 x24_3 x24_4) → 2049 - x24_4.toInt < (n_24 : Int) → pw D A s.heap H locs [wdP cs h r g tf ta pf na ma wa cf ca ef ea xf xa] → lv_has ls 5 [(0, .ref h), (1, .int p0), (2, .int p1), (3, .int x24_3), (4, .int x24_4)] → W p l e { frames := 0, cells := 0, slots := 0, locals := 0 } s m [.ref h, .int p0, .int p1].toArray below meth c H locs 0 0 (MQ below (va_Qi (fun v ps => (ps = [wdP cs h r g tf ta pf na ma wa cf ca ef ea xf xa]) ∧ (v = 0 ∨ v = 1) ∧ (SmV ta p0 p1 v.toInt) ∧ (R_mp_sameName ta p0 p1 v)) (pc_B D (va_A ([wdP cs h r g tf ta pf na ma wa cf ca ef ea xf xa] : List va_W).flatten s.heap.size)) (va_A ([wdP cs h r g tf ta pf na ma wa cf ca ef ea xf xa] : List va_W).flatten s.heap.size)) [.ref h, .int p0, .int p1].toArray s 0 0 A) (F0 m 24 ls []) := by
    intro  n_24
    induction n_24 with
    | zero =>
      intro x24_3 x24_4 H locs ls k24_0 k24_1 k24_2 k24_3 k24_4 k24_5 k24_6 hm hw hl
      have lx24_3 := Int32.le_toInt x24_3
      have ux24_3 := Int32.toInt_lt x24_3
      have lx24_4 := Int32.le_toInt x24_4
      have ux24_4 := Int32.toInt_lt x24_4
      have hsm := k24_5
      exact absurd hm (by omega)
    | succ n_24 ih24 =>
      intro x24_3 x24_4 H locs ls k24_0 k24_1 k24_2 k24_3 k24_4 k24_5 k24_6 hm hw hl
      have lx24_3 := Int32.le_toInt x24_3
      have ux24_3 := Int32.toInt_lt x24_3
      have lx24_4 := Int32.le_toInt x24_4
      have ux24_4 := Int32.toInt_lt x24_4
      have hsm := k24_5
      refine lv_iload S.x S.b d_Mpg_sameName_24 (lv_at hl 4 rfl) ?_
      refine lv_aload_n S.x S.b d_Mpg_sameName_26 rfl (lv_at hl 0 rfl) ?_
      refine gP_8 S hT hw 0 rfl m9_232 d_Mpg_sameName_27 ?_
      refine lv_iload_n S.x S.b d_Mpg_sameName_30 rfl (lv_at hl 1 rfl) ?_
      refine px_iald S hT hw 0 7 (n := 2060) (f := (ta 8)) rfl gp_8 (x := p0) (vp_in_iff.mpr (by first | exact oz_846323bf3a g0 g1 g4 | (constructor <;> omega))) d_Mpg_sameName_31 ?_
      refine lv_topi (fun z1 ez1 => ?_)
      have lz1 := Int32.le_toInt z1
      have uz1 := Int32.toInt_lt z1
      have rz1 : z1.toInt = sz ta p0 := by rw [ez1]; rfl
      refine lv_icmp_ge (tgt := 82) S.x S.b d_Mpg_sameName_32 (by decide) (fun c2 => ?_) (fun c2 => ?_)
      · have nc2 : z1.toInt ≤ x24_4.toInt := (i_le (x := z1) (y := x24_4)).mp c2
        refine lv_iload_n S.x S.b d_Mpg_sameName_82 rfl (lv_at hl 3 rfl) ?_
        exact px_iret (v := x24_3) S hr (z_nar (by omega)) hlk hAe hw (Nat.le_of_ble_eq_true rfl) (Nat.le_of_ble_eq_true rfl) (⟨rfl, (show x24_3 = 0 ∨ x24_3 = 1 from by first | exact Or.inl rfl | exact Or.inr rfl | exact z_or (by omega)), (show SmV ta p0 p1 x24_3.toInt from (SmL.e hsm (by omega))), (show R_mp_sameName ta p0 p1 x24_3 from (k24_6 _ 1 (Or.inr (Or.inl ⟨rfl, x24_3, x24_4, rfl, rfl, rfl, rfl, rfl, z1, ez1, Or.inl ⟨nc2, rfl⟩⟩))))⟩) d_Mpg_sameName_83
      · have nc2 : ¬ z1.toInt ≤ x24_4.toInt := mt (i_le (x := z1) (y := x24_4)).mpr c2
        refine lv_iload_n S.x S.b d_Mpg_sameName_35 rfl (lv_at hl 3 rfl) ?_
        refine lv_if_eq (tgt := 82) S.x S.b d_Mpg_sameName_36 (by decide) (fun c4 => ?_) (fun c4 => ?_)
        · have nc4 : x24_3.toInt = (0 : Int) := (i_eq (x := x24_3) (y := 0)).mp c4
          refine lv_iload_n S.x S.b d_Mpg_sameName_82 rfl (lv_at hl 3 rfl) ?_
          exact px_iret (v := x24_3) S hr (z_nar (by omega)) hlk hAe hw (Nat.le_of_ble_eq_true rfl) (Nat.le_of_ble_eq_true rfl) (⟨rfl, (show x24_3 = 0 ∨ x24_3 = 1 from by first | exact Or.inl rfl | exact Or.inr rfl | exact z_or (by omega)), (show SmV ta p0 p1 x24_3.toInt from (SmL.e hsm (by omega))), (show R_mp_sameName ta p0 p1 x24_3 from (k24_6 _ 1 (Or.inr (Or.inl ⟨rfl, x24_3, x24_4, rfl, rfl, rfl, rfl, rfl, z1, ez1, Or.inr ⟨nc2, Or.inl ⟨nc4, rfl⟩⟩⟩))))⟩) d_Mpg_sameName_83
        · have nc4 : ¬ x24_3.toInt = (0 : Int) := mt (i_eq (x := x24_3) (y := 0)).mpr c4
          refine lv_aload_n S.x S.b d_Mpg_sameName_39 rfl (lv_at hl 0 rfl) ?_
          refine gP_4 S hT hw 0 rfl m9_228 d_Mpg_sameName_40 ?_
          refine lv_aload_n S.x S.b d_Mpg_sameName_43 rfl (lv_at hl 0 rfl) ?_
          refine gP_7 S hT hw 0 rfl m9_231 d_Mpg_sameName_44 ?_
          refine lv_iload_n S.x S.b d_Mpg_sameName_47 rfl (lv_at hl 1 rfl) ?_
          refine px_iald S hT hw 0 6 (n := 2060) (f := (ta 7)) rfl gp_7 (x := p0) (vp_in_iff.mpr (by first | exact oz_846323bf3a g0 g1 g4 | (constructor <;> omega))) d_Mpg_sameName_48 ?_
          refine lv_topi (fun z6 ez6 => ?_)
          have lz6 := Int32.le_toInt z6
          have uz6 := Int32.toInt_lt z6
          have rz6 : z6.toInt = bp ta p0 := by rw [ez6]; rfl
          refine lv_iload S.x S.b d_Mpg_sameName_49 (lv_at hl 4 rfl) ?_
          refine lv_iadd S.x S.b d_Mpg_sameName_51 ?_
          refine lv_topi (fun z7 ez7 => ?_)
          have tz7 : z7.toInt = (z6.toInt + x24_4.toInt + 2147483648) % 4294967296 - 2147483648 := by rw [ez7]; exact i_add z6 x24_4
          have lz7 := Int32.le_toInt z7
          have uz7 := Int32.toInt_lt z7
          try replace tz7 : z7.toInt = z6.toInt + x24_4.toInt := by omega
          refine px_bald S hT hw 0 5 (n := 2048) (f := (ta 4)) rfl gp_4 (x := z7) (vp_in_iff.mpr (by first | exact oz_9dc164894e tz7 k24_2 rz6 hb_p0.1 nc2 hb_p0.2.2.1 rz1 hb_p0.2.2.2 | (constructor <;> omega))) d_Mpg_sameName_52 ?_
          refine lv_topi (fun z8 ez8 => ?_)
          have lz8 := Int32.le_toInt z8
          have uz8 := Int32.toInt_lt z8
          refine lv_aload_n S.x S.b d_Mpg_sameName_53 rfl (lv_at hl 0 rfl) ?_
          refine gP_4 S hT hw 0 rfl m9_228 d_Mpg_sameName_54 ?_
          refine lv_aload_n S.x S.b d_Mpg_sameName_57 rfl (lv_at hl 0 rfl) ?_
          refine gP_7 S hT hw 0 rfl m9_231 d_Mpg_sameName_58 ?_
          refine lv_iload_n S.x S.b d_Mpg_sameName_61 rfl (lv_at hl 2 rfl) ?_
          refine px_iald S hT hw 0 6 (n := 2060) (f := (ta 7)) rfl gp_7 (x := p1) (vp_in_iff.mpr (by first | exact oz_846323bf3a g2 g3 g4 | (constructor <;> omega))) d_Mpg_sameName_62 ?_
          refine lv_topi (fun z9 ez9 => ?_)
          have lz9 := Int32.le_toInt z9
          have uz9 := Int32.toInt_lt z9
          have rz9 : z9.toInt = bp ta p1 := by rw [ez9]; rfl
          refine lv_iload S.x S.b d_Mpg_sameName_63 (lv_at hl 4 rfl) ?_
          refine lv_iadd S.x S.b d_Mpg_sameName_65 ?_
          refine lv_topi (fun z10 ez10 => ?_)
          have tz10 : z10.toInt = (z9.toInt + x24_4.toInt + 2147483648) % 4294967296 - 2147483648 := by rw [ez10]; exact i_add z9 x24_4
          have lz10 := Int32.le_toInt z10
          have uz10 := Int32.toInt_lt z10
          try replace tz10 : z10.toInt = z9.toInt + x24_4.toInt := by omega
          refine px_bald S hT hw 0 5 (n := 2048) (f := (ta 4)) rfl gp_4 (x := z10) (vp_in_iff.mpr (by constructor <;> omega)) d_Mpg_sameName_66 ?_
          refine lv_topi (fun z11 ez11 => ?_)
          have lz11 := Int32.le_toInt z11
          have uz11 := Int32.toInt_lt z11
          refine lv_icmp_ne (tgt := 74) S.x S.b d_Mpg_sameName_67 (by decide) (fun c12 => ?_) (fun c12 => ?_)
          · have nc12 : ¬ z8.toInt = z11.toInt := mt (i_eq (x := z8) (y := z11)).mpr c12
            refine lv_iconst (v := 0) S.x S.b d_Mpg_sameName_74 (by decide) ?_
            refine lv_istore_n (lv' := [(3, .int 0), (0, .ref h), (1, .int p0), (2, .int p1), (4, .int x24_4)]) S.x S.b d_Mpg_sameName_75 rfl hl (by decide) rfl (fun ls hl => ?_)
            obtain ⟨z14, ez14⟩ : ∃ y : Int32, y = x24_4 + 1 := ⟨_, rfl⟩
            have tz14 : z14.toInt = (x24_4.toInt + 1 + 2147483648) % 4294967296 - 2147483648 := by rw [ez14]; exact i_add x24_4 1
            have lz14 := Int32.le_toInt z14
            have uz14 := Int32.toInt_lt z14
            try replace tz14 : z14.toInt = x24_4.toInt + 1 := by omega
            refine lv_iinc (v := z14) (lv' := [(4, .int z14), (3, .int 0), (0, .ref h), (1, .int p0), (2, .int p1)]) S.x S.b d_Mpg_sameName_76 hl (k := 4) rfl (by rw [ez14]; rfl) (by decide) rfl (fun ls hl => ?_)
            refine lv_goto (tgt := 24) S.x S.b d_Mpg_sameName_79 (by decide) ?_
            first | exact ih24 (0 : Int32) z14 _ _ ls (show 0 ≤ (0 : Int) from oz_5a341f00aa) (show (0 : Int) ≤ 1 from oz_6e68cd0f48) (show 0 ≤ z14.toInt from (oz_ae613611c0 tz14 k24_2)) (show z14.toInt ≤ sz ta p0 from (oz_a6fd07f316 rz1 tz14 nc2)) (show (0 : Int) = 1 → sz ta p0 = sz ta p1 from by omega) (show SmL ta p0 p1 (0 : Int) z14.toInt from (SmL.nx hsm (by omega) (by omega) (by omega) ez8 ez11 (by omega) (by omega) (by omega) (by omega) (fun _ => by omega) (fun _ => by omega) (by omega))) (show K_mp_sameName_24 ta p0 p1 0 z14 from (fun y_v k hE => k24_6 y_v (k + 1) (Or.inr (Or.inl ⟨rfl, x24_3, x24_4, rfl, rfl, rfl, rfl, rfl, z1, ez1, Or.inr ⟨nc2, Or.inr ⟨nc4, z6, ez6, z7, ez7, z8, ez8, z9, ez9, z10, ez10, z11, ez11, Or.inl ⟨nc12, z14, ez14, hE⟩⟩⟩⟩)))) (show 2049 - z14.toInt < (n_24 : Int) from (oz_c0c4791958 hm tz14)) hw (lv_sub hl [2, 3, 4, 1, 0] rfl) | (exact ih24 (0 : Int32) z14 _ _ ls (show 0 ≤ (0 : Int) from by first | exact oz_5a341f00aa | omega) (show (0 : Int) ≤ 1 from by first | exact oz_6e68cd0f48 | omega) (show 0 ≤ z14.toInt from by first | exact oz_ae613611c0 tz14 k24_2 | omega) (show z14.toInt ≤ sz ta p0 from by first | exact oz_a6fd07f316 rz1 tz14 nc2 | omega) (show (0 : Int) = 1 → sz ta p0 = sz ta p1 from by omega) (show SmL ta p0 p1 (0 : Int) z14.toInt from (SmL.nx hsm (by omega) (by omega) (by omega) ez8 ez11 (by omega) (by omega) (by omega) (by omega) (fun _ => by omega) (fun _ => by omega) (by omega))) (show K_mp_sameName_24 ta p0 p1 0 z14 from (fun y_v k hE => k24_6 y_v (k + 1) (Or.inr (Or.inl ⟨rfl, x24_3, x24_4, rfl, rfl, rfl, rfl, rfl, z1, ez1, Or.inr ⟨nc2, Or.inr ⟨nc4, z6, ez6, z7, ez7, z8, ez8, z9, ez9, z10, ez10, z11, ez11, Or.inl ⟨nc12, z14, ez14, hE⟩⟩⟩⟩)))) (show 2049 - z14.toInt < (n_24 : Int) from by first | exact oz_c0c4791958 hm tz14 | omega) hw (lv_sub hl [2, 3, 4, 1, 0] rfl))
          · have nc12 : z8.toInt = z11.toInt := (i_eq (x := z8) (y := z11)).mp c12
            refine lv_iconst (v := 1) S.x S.b d_Mpg_sameName_70 (by decide) ?_
            refine lv_goto (tgt := 75) S.x S.b d_Mpg_sameName_71 (by decide) ?_
            refine lv_istore_n (lv' := [(3, .int 1), (0, .ref h), (1, .int p0), (2, .int p1), (4, .int x24_4)]) S.x S.b d_Mpg_sameName_75 rfl hl (by decide) rfl (fun ls hl => ?_)
            obtain ⟨z15, ez15⟩ : ∃ y : Int32, y = x24_4 + 1 := ⟨_, rfl⟩
            have tz15 : z15.toInt = (x24_4.toInt + 1 + 2147483648) % 4294967296 - 2147483648 := by rw [ez15]; exact i_add x24_4 1
            have lz15 := Int32.le_toInt z15
            have uz15 := Int32.toInt_lt z15
            try replace tz15 : z15.toInt = x24_4.toInt + 1 := by omega
            refine lv_iinc (v := z15) (lv' := [(4, .int z15), (3, .int 1), (0, .ref h), (1, .int p0), (2, .int p1)]) S.x S.b d_Mpg_sameName_76 hl (k := 4) rfl (by rw [ez15]; rfl) (by decide) rfl (fun ls hl => ?_)
            refine lv_goto (tgt := 24) S.x S.b d_Mpg_sameName_79 (by decide) ?_
            first | exact ih24 (1 : Int32) z15 _ _ ls (show 0 ≤ (1 : Int) from oz_19c3a41681) (show (1 : Int) ≤ 1 from oz_f9181dc4bb) (show 0 ≤ z15.toInt from (oz_ae613611c0 tz15 k24_2)) (show z15.toInt ≤ sz ta p0 from (oz_a6fd07f316 rz1 tz15 nc2)) (show (1 : Int) = 1 → sz ta p0 = sz ta p1 from by omega) (show SmL ta p0 p1 (1 : Int) z15.toInt from (SmL.nx hsm (by omega) (by omega) (by omega) ez8 ez11 (by omega) (by omega) (by omega) (by omega) (fun _ => by omega) (fun _ => by omega) (by omega))) (show K_mp_sameName_24 ta p0 p1 1 z15 from (fun y_v k hE => k24_6 y_v (k + 1) (Or.inr (Or.inl ⟨rfl, x24_3, x24_4, rfl, rfl, rfl, rfl, rfl, z1, ez1, Or.inr ⟨nc2, Or.inr ⟨nc4, z6, ez6, z7, ez7, z8, ez8, z9, ez9, z10, ez10, z11, ez11, Or.inr ⟨nc12, z15, ez15, hE⟩⟩⟩⟩)))) (show 2049 - z15.toInt < (n_24 : Int) from (oz_c0c4791958 hm tz15)) hw (lv_sub hl [2, 3, 4, 1, 0] rfl) | (exact ih24 (1 : Int32) z15 _ _ ls (show 0 ≤ (1 : Int) from by first | exact oz_19c3a41681 | omega) (show (1 : Int) ≤ 1 from by first | exact oz_f9181dc4bb | omega) (show 0 ≤ z15.toInt from by first | exact oz_ae613611c0 tz15 k24_2 | omega) (show z15.toInt ≤ sz ta p0 from by first | exact oz_a6fd07f316 rz1 tz15 nc2 | omega) (show (1 : Int) = 1 → sz ta p0 = sz ta p1 from by omega) (show SmL ta p0 p1 (1 : Int) z15.toInt from (SmL.nx hsm (by omega) (by omega) (by omega) ez8 ez11 (by omega) (by omega) (by omega) (by omega) (fun _ => by omega) (fun _ => by omega) (by omega))) (show K_mp_sameName_24 ta p0 p1 1 z15 from (fun y_v k hE => k24_6 y_v (k + 1) (Or.inr (Or.inl ⟨rfl, x24_3, x24_4, rfl, rfl, rfl, rfl, rfl, z1, ez1, Or.inr ⟨nc2, Or.inr ⟨nc4, z6, ez6, z7, ez7, z8, ez8, z9, ez9, z10, ez10, z11, ez11, Or.inr ⟨nc12, z15, ez15, hE⟩⟩⟩⟩)))) (show 2049 - z15.toInt < (n_24 : Int) from by first | exact oz_c0c4791958 hm tz15 | omega) hw (lv_sub hl [2, 3, 4, 1, 0] rfl))
  refine lv_aload_n S.x S.b d_Mpg_sameName_0 rfl (lv_at hl 0 rfl) ?_
  refine gP_8 S hT hw 0 rfl m9_232 d_Mpg_sameName_1 ?_
  refine lv_iload_n S.x S.b d_Mpg_sameName_4 rfl (lv_at hl 1 rfl) ?_
  refine px_iald S hT hw 0 7 (n := 2060) (f := (ta 8)) rfl gp_8 (x := p0) (vp_in_iff.mpr (by first | exact oz_846323bf3a g0 g1 g4 | (constructor <;> omega))) d_Mpg_sameName_5 ?_
  refine lv_topi (fun z16 ez16 => ?_)
  have lz16 := Int32.le_toInt z16
  have uz16 := Int32.toInt_lt z16
  have rz16 : z16.toInt = sz ta p0 := by rw [ez16]; rfl
  refine lv_aload_n S.x S.b d_Mpg_sameName_6 rfl (lv_at hl 0 rfl) ?_
  refine gP_8 S hT hw 0 rfl m9_232 d_Mpg_sameName_7 ?_
  refine lv_iload_n S.x S.b d_Mpg_sameName_10 rfl (lv_at hl 2 rfl) ?_
  refine px_iald S hT hw 0 7 (n := 2060) (f := (ta 8)) rfl gp_8 (x := p1) (vp_in_iff.mpr (by first | exact oz_846323bf3a g2 g3 g4 | (constructor <;> omega))) d_Mpg_sameName_11 ?_
  refine lv_topi (fun z17 ez17 => ?_)
  have lz17 := Int32.le_toInt z17
  have uz17 := Int32.toInt_lt z17
  have rz17 : z17.toInt = sz ta p1 := by rw [ez17]; rfl
  refine lv_icmp_ne (tgt := 19) S.x S.b d_Mpg_sameName_12 (by decide) (fun c18 => ?_) (fun c18 => ?_)
  · have nc18 : ¬ z16.toInt = z17.toInt := mt (i_eq (x := z16) (y := z17)).mpr c18
    refine lv_iconst (v := 0) S.x S.b d_Mpg_sameName_19 (by decide) ?_
    refine lv_istore_n (lv' := [(3, .int 0), (0, .ref h), (1, .int p0), (2, .int p1)]) S.x S.b d_Mpg_sameName_20 rfl hl (by decide) rfl (fun ls hl => ?_)
    refine lv_iconst (v := 0) S.x S.b d_Mpg_sameName_21 (by decide) ?_
    refine lv_istore (lv' := [(4, .int 0), (3, .int 0), (0, .ref h), (1, .int p0), (2, .int p1)]) S.x S.b d_Mpg_sameName_22 hl (by decide) rfl (fun ls hl => ?_)
    first | exact J24 ((2049 - (0 : Int)).toNat + 1) (0 : Int32) (0 : Int32) _ _ ls (show 0 ≤ (0 : Int) from oz_5a341f00aa) (show (0 : Int) ≤ 1 from oz_6e68cd0f48) (show 0 ≤ (0 : Int) from oz_5a341f00aa) (show (0 : Int) ≤ sz ta p0 from (oz_50c21e157e hb_p0.2.1)) (show (0 : Int) = 1 → sz ta p0 = sz ta p1 from by omega) (show SmL ta p0 p1 (0 : Int) (0 : Int) from (sm_0 (fun _ => by omega) (fun _ => by omega))) (show K_mp_sameName_24 ta p0 p1 0 0 from (fun y_v k hE => Exists.intro (k + 1) (Or.inl ⟨rfl, z16, ez16, z17, ez17, Or.inl ⟨nc18, hE⟩⟩))) (show 2049 - (0 : Int) < ((((2049 - (0 : Int)).toNat + 1 : Nat) : Int) : Int) from oz_natlt) hw (lv_sub hl [2, 3, 4, 1, 0] rfl) | (exact J24 ((2049 - (0 : Int)).toNat + 1) (0 : Int32) (0 : Int32) _ _ ls (show 0 ≤ (0 : Int) from by first | exact oz_5a341f00aa | omega) (show (0 : Int) ≤ 1 from by first | exact oz_6e68cd0f48 | omega) (show 0 ≤ (0 : Int) from by first | exact oz_5a341f00aa | omega) (show (0 : Int) ≤ sz ta p0 from by first | exact oz_50c21e157e hb_p0.2.1 | omega) (show (0 : Int) = 1 → sz ta p0 = sz ta p1 from by omega) (show SmL ta p0 p1 (0 : Int) (0 : Int) from (sm_0 (fun _ => by omega) (fun _ => by omega))) (show K_mp_sameName_24 ta p0 p1 0 0 from (fun y_v k hE => Exists.intro (k + 1) (Or.inl ⟨rfl, z16, ez16, z17, ez17, Or.inl ⟨nc18, hE⟩⟩))) (show 2049 - (0 : Int) < ((((2049 - (0 : Int)).toNat + 1 : Nat) : Int) : Int) from by first | exact oz_natlt | omega) hw (lv_sub hl [2, 3, 4, 1, 0] rfl))
  · have nc18 : z16.toInt = z17.toInt := (i_eq (x := z16) (y := z17)).mp c18
    refine lv_iconst (v := 1) S.x S.b d_Mpg_sameName_15 (by decide) ?_
    refine lv_goto (tgt := 20) S.x S.b d_Mpg_sameName_16 (by decide) ?_
    refine lv_istore_n (lv' := [(3, .int 1), (0, .ref h), (1, .int p0), (2, .int p1)]) S.x S.b d_Mpg_sameName_20 rfl hl (by decide) rfl (fun ls hl => ?_)
    refine lv_iconst (v := 0) S.x S.b d_Mpg_sameName_21 (by decide) ?_
    refine lv_istore (lv' := [(4, .int 0), (3, .int 1), (0, .ref h), (1, .int p0), (2, .int p1)]) S.x S.b d_Mpg_sameName_22 hl (by decide) rfl (fun ls hl => ?_)
    first | exact J24 ((2049 - (0 : Int)).toNat + 1) (1 : Int32) (0 : Int32) _ _ ls (show 0 ≤ (1 : Int) from oz_19c3a41681) (show (1 : Int) ≤ 1 from oz_f9181dc4bb) (show 0 ≤ (0 : Int) from oz_5a341f00aa) (show (0 : Int) ≤ sz ta p0 from (oz_50c21e157e hb_p0.2.1)) (show (1 : Int) = 1 → sz ta p0 = sz ta p1 from by omega) (show SmL ta p0 p1 (1 : Int) (0 : Int) from (sm_0 (fun _ => by omega) (fun _ => by omega))) (show K_mp_sameName_24 ta p0 p1 1 0 from (fun y_v k hE => Exists.intro (k + 1) (Or.inl ⟨rfl, z16, ez16, z17, ez17, Or.inr ⟨nc18, hE⟩⟩))) (show 2049 - (0 : Int) < ((((2049 - (0 : Int)).toNat + 1 : Nat) : Int) : Int) from oz_natlt) hw (lv_sub hl [2, 3, 4, 1, 0] rfl) | (exact J24 ((2049 - (0 : Int)).toNat + 1) (1 : Int32) (0 : Int32) _ _ ls (show 0 ≤ (1 : Int) from by first | exact oz_19c3a41681 | omega) (show (1 : Int) ≤ 1 from by first | exact oz_f9181dc4bb | omega) (show 0 ≤ (0 : Int) from by first | exact oz_5a341f00aa | omega) (show (0 : Int) ≤ sz ta p0 from by first | exact oz_50c21e157e hb_p0.2.1 | omega) (show (1 : Int) = 1 → sz ta p0 = sz ta p1 from by omega) (show SmL ta p0 p1 (1 : Int) (0 : Int) from (sm_0 (fun _ => by omega) (fun _ => by omega))) (show K_mp_sameName_24 ta p0 p1 1 0 from (fun y_v k hE => Exists.intro (k + 1) (Or.inl ⟨rfl, z16, ez16, z17, ez17, Or.inr ⟨nc18, hE⟩⟩))) (show 2049 - (0 : Int) < ((((2049 - (0 : Int)).toNat + 1 : Nat) : Int) : Int) from by first | exact oz_natlt | omega) hw (lv_sub hl [2, 3, 4, 1, 0] rfl))
abbrev b_Mpg_isNamed : ByteArray := prog_16_method_65_code
def y_Mpg_isNamed : MethodName := ⟨"HomeSystemModel$Program", "isNamed", "(ILjava/lang/String;)Z"⟩
theorem d_Mpg_isNamed_0 : decode b_Mpg_isNamed 0 = .ok (.aload_n 0, 1) := by decide +kernel
theorem d_Mpg_isNamed_1 : decode b_Mpg_isNamed 1 = .ok (.getfield 198, 3) := by decide +kernel
theorem d_Mpg_isNamed_4 : decode b_Mpg_isNamed 4 = .ok (.iload_n 1, 1) := by decide +kernel
theorem d_Mpg_isNamed_5 : decode b_Mpg_isNamed 5 = .ok (.iaload, 1) := by decide +kernel
theorem d_Mpg_isNamed_6 : decode b_Mpg_isNamed 6 = .ok (.aload_n 2, 1) := by decide +kernel
theorem d_Mpg_isNamed_7 : decode b_Mpg_isNamed 7 = .ok (.invokevirtual 307, 3) := by decide +kernel
theorem d_Mpg_isNamed_10 : decode b_Mpg_isNamed 10 = .ok (.if_icmp .ne 21, 3) := by decide +kernel
theorem d_Mpg_isNamed_13 : decode b_Mpg_isNamed 13 = .ok (.aload_n 0, 1) := by decide +kernel
theorem d_Mpg_isNamed_14 : decode b_Mpg_isNamed 14 = .ok (.aload_n 0, 1) := by decide +kernel
theorem d_Mpg_isNamed_15 : decode b_Mpg_isNamed 15 = .ok (.getfield 194, 3) := by decide +kernel
theorem d_Mpg_isNamed_18 : decode b_Mpg_isNamed 18 = .ok (.iload_n 1, 1) := by decide +kernel
theorem d_Mpg_isNamed_19 : decode b_Mpg_isNamed 19 = .ok (.iaload, 1) := by decide +kernel
theorem d_Mpg_isNamed_20 : decode b_Mpg_isNamed 20 = .ok (.aload_n 2, 1) := by decide +kernel
theorem d_Mpg_isNamed_21 : decode b_Mpg_isNamed 21 = .ok (.invokevirtual 314, 3) := by decide +kernel
theorem d_Mpg_isNamed_24 : decode b_Mpg_isNamed 24 = .ok (.ifCond .eq 7, 3) := by decide +kernel
theorem d_Mpg_isNamed_27 : decode b_Mpg_isNamed 27 = .ok (.iconst 1, 1) := by decide +kernel
theorem d_Mpg_isNamed_28 : decode b_Mpg_isNamed 28 = .ok (.goto 4, 3) := by decide +kernel
theorem d_Mpg_isNamed_31 : decode b_Mpg_isNamed 31 = .ok (.iconst 0, 1) := by decide +kernel
theorem d_Mpg_isNamed_32 : decode b_Mpg_isNamed 32 = .ok (.ireturn, 1) := by decide +kernel
theorem q_Mpg_isNamed : px_y y_Mpg_isNamed 2 := by unfold px_y; decide +kernel
set_option maxHeartbeats 4000000 in
set_option maxRecDepth 100000 in
theorem c_mp_isNamed (l : Launch) (D : va_G) (cs : Nat → ClassId) (sk : Nat) (sn : Nat) (sb : Nat → Int32) (h : Nat) (r : Nat → Nat) (g : Nat → Nat → Option Nat) (tf : Nat → Int32) (ta : Nat → Nat → Int32) (pf : Nat → Int32) (na : Nat → Nat → Int32) (ma : Nat → Nat → Int32) (wa : Nat → Nat → Int32) (cf : Nat → Int32) (ca : Nat → Nat → Int32) (ef : Nat → Int32) (ea : Nat → Nat → Int32) (xf : Nat → Int32) (xa : Nat → Nat → Int32) (p0 : Int32)  (g0 : 0 ≤ p0.toInt) (g1 : p0.toInt < (tf 6).toInt) (g2 : (tf 6).toInt ≤ 2049) (g3 : sn ≤ 100) (htk : TkI tf ta) : MetI l y_Mpg_isNamed b_Mpg_isNamed 3 (.boolean) D cs 5 180 (0) (0) [.ref h, .int p0, .ref sk] [wdP cs h r g tf ta pf na ma wa cf ca ef ea xf xa] (oX (fun A U H => (oP A g U H) ∧ (StLt A sk sn sb U H)) [wdP cs h r g tf ta pf na ma wa cf ca ef ea xf xa]) (fun v ps => (ps = [wdP cs h r g tf ta pf na ma wa cf ca ef ea xf xa]) ∧ (v = 0 ∨ v = 1) ∧ (R_mp_isNamed sn sb tf ta p0 v)) := by
  refine px_enter (by decide) (Nat.le_of_ble_eq_true rfl) ?_
  intro p e s m below meth c A ls hAe S hr hlk hnm hA hT hX hw hl
  have hl : lv_has ls 3 [(0, .ref h), (1, .int p0), (2, .ref sk)] := hl
  have lp0 := Int32.le_toInt p0
  have up0 := Int32.toInt_lt p0
  have cst0 : (0 : Int32).toInt = 0 := rfl
  have cst1 : (1 : Int32).toInt = 1 := rfl
  have hX : (fun A U H => (oP A g U H) ∧ (StLt A sk sn sb U H)) A s s.heap := by rw [hAe]; exact hX
  obtain ⟨hP, hQ0⟩ := hX
  obtain ⟨st0, hQ1⟩ := hQ0
  have hZ := hP.1
  have hF0 := hP.2.1
  have hb_p0 := tk_b htk (x := p0) (by omega) (by omega)
  refine lv_aload_n S.x S.b d_Mpg_isNamed_0 rfl (lv_at hl 0 rfl) ?_
  refine gP_8 S hT hw 0 rfl m9_232 d_Mpg_isNamed_1 ?_
  refine lv_iload_n S.x S.b d_Mpg_isNamed_4 rfl (lv_at hl 1 rfl) ?_
  refine px_iald S hT hw 0 7 (n := 2060) (f := (ta 8)) rfl gp_8 (x := p0) (vp_in_iff.mpr (by first | exact oz_846323bf3a g0 g1 g2 | (constructor <;> omega))) d_Mpg_isNamed_5 ?_
  refine lv_topi (fun z1 ez1 => ?_)
  have lz1 := Int32.le_toInt z1
  have uz1 := Int32.toInt_lt z1
  have rz1 : z1.toInt = sz ta p0 := by rw [ez1]; rfl
  refine lv_aload_n S.x S.b d_Mpg_isNamed_6 rfl (lv_at hl 2 rfl) ?_
  first | refine px_calli (pr := [wdP cs h r g tf ta pf na ma wa cf ca ef ea xf xa]) (px_runV (As := []) (rest := [.int z1]) S (c_String_length l D cs sk st0 sn sb   (show sn ≤ 1000000 from (oz_202527c70a g3)) _) hT (pr := [wdP cs h r g tf ta pf na ma wa cf ca ef ea xf xa]) (pcs := []) hw (oX_call (P := (fun A U H => (oZ A U H) ∧ (oS A sk st0 sn sb U H))) (pr := [wdP cs h r g tf ta pf na ma wa cf ca ef ea xf xa]) (oG_and oG_Z oG_S) hw hA ⟨hZ, hQ1⟩) (oS_recv hw hQ1) m1_58 m11_157 m1_56 m1_57 m1_3 q_String_length ⟨Nat.le_of_ble_eq_true rfl, Nat.le_of_ble_eq_true rfl⟩ hl.1 rfl (Nat.le_of_ble_eq_true rfl) d_Mpg_isNamed_7 ⟨Nat.le_of_ble_eq_true rfl, Nat.le_of_ble_eq_true rfl⟩) hw hA (fun v3 p2 H locs hp2 hw => ?_) | (refine px_calli (pr := [wdP cs h r g tf ta pf na ma wa cf ca ef ea xf xa]) (px_runV (As := []) (rest := [.int z1]) S (c_String_length l D cs sk st0 sn sb   (show sn ≤ 1000000 from by first | exact oz_202527c70a g3 | omega) _) hT (pr := [wdP cs h r g tf ta pf na ma wa cf ca ef ea xf xa]) (pcs := []) hw (oX_call (P := (fun A U H => (oZ A U H) ∧ (oS A sk st0 sn sb U H))) (pr := [wdP cs h r g tf ta pf na ma wa cf ca ef ea xf xa]) (oG_and oG_Z oG_S) hw hA ⟨hZ, hQ1⟩) (oS_recv hw hQ1) m1_58 m11_157 m1_56 m1_57 m1_3 q_String_length ⟨Nat.le_of_ble_eq_true rfl, Nat.le_of_ble_eq_true rfl⟩ hl.1 rfl (Nat.le_of_ble_eq_true rfl) d_Mpg_isNamed_7 ⟨Nat.le_of_ble_eq_true rfl, Nat.le_of_ble_eq_true rfl⟩) hw hA (fun v3 p2 H locs hp2 hw => ?_))
  obtain ⟨rfl, e4, e5⟩ := hp2
  have e4 : v3.toInt = (sn : Int) := e4
  have e5 : R_String_length sn v3 := e5
  have lv3 := Int32.le_toInt v3
  have uv3 := Int32.toInt_lt v3
  refine lv_icmp_ne (tgt := 31) S.x S.b d_Mpg_isNamed_10 (by decide) (fun c6 => ?_) (fun c6 => ?_)
  · have nc6 : ¬ z1.toInt = v3.toInt := mt (i_eq (x := z1) (y := v3)).mpr c6
    refine lv_iconst (v := 0) S.x S.b d_Mpg_isNamed_31 (by decide) ?_
    exact px_iret (v := 0) S hr rfl hlk hAe hw (Nat.le_of_ble_eq_true rfl) (Nat.le_of_ble_eq_true rfl) (⟨rfl, (show (0 : Int32) = 0 ∨ (0 : Int32) = 1 from by first | exact Or.inl rfl | exact Or.inr rfl | exact z_or (by omega)), (show R_mp_isNamed sn sb tf ta p0 (0 : Int32) from (Or.inl ⟨z1, ez1, v3, e5, Or.inl ⟨nc6, rfl⟩⟩))⟩) d_Mpg_isNamed_32
  · have nc6 : z1.toInt = v3.toInt := (i_eq (x := z1) (y := v3)).mp c6
    refine lv_aload_n S.x S.b d_Mpg_isNamed_13 rfl (lv_at hl 0 rfl) ?_
    refine lv_aload_n S.x S.b d_Mpg_isNamed_14 rfl (lv_at hl 0 rfl) ?_
    refine gP_7 S hT hw 0 rfl m9_231 d_Mpg_isNamed_15 ?_
    refine lv_iload_n S.x S.b d_Mpg_isNamed_18 rfl (lv_at hl 1 rfl) ?_
    refine px_iald S hT hw 0 6 (n := 2060) (f := (ta 7)) rfl gp_7 (x := p0) (vp_in_iff.mpr (by first | exact oz_846323bf3a g0 g1 g2 | (constructor <;> omega))) d_Mpg_isNamed_19 ?_
    refine lv_topi (fun z8 ez8 => ?_)
    have lz8 := Int32.le_toInt z8
    have uz8 := Int32.toInt_lt z8
    have rz8 : z8.toInt = bp ta p0 := by rw [ez8]; rfl
    refine lv_aload_n S.x S.b d_Mpg_isNamed_20 rfl (lv_at hl 2 rfl) ?_
    first | refine px_calli (pr := []) (px_runV (As := [.int z8, .ref sk]) (rest := []) S (c_mp_standsS l D cs sk sn sb h r g tf ta pf na ma wa cf ca ef ea xf xa z8  (show 0 ≤ (tf 5).toInt from (oz_3e80f65ba7 hb_p0.2.2.1 hb_p0.1 hb_p0.2.1)) (show (tf 5).toInt ≤ 2048 from hb_p0.2.2.2) (show 0 ≤ z8.toInt from (oz_f3ebed1ad0 rz8 hb_p0.1)) (show z8.toInt ≤ 4000 from (oz_27a4de8aa9 rz8 hb_p0.2.2.1 hb_p0.2.1 hb_p0.2.2.2)) (show sn ≤ 100 from g3) _) hT (pr := []) (pcs := [wdP cs h r g tf ta pf na ma wa cf ca ef ea xf xa]) hw (oX_call (P := (fun A U H => (oP A g U H) ∧ (StLt A sk sn sb U H))) (pr := []) (oG_and oG_P oG_QB) hw hA ⟨hP, ⟨_, hQ1⟩⟩) (px_recv hT hw 0 0 rfl rfl rfl) m11_161 m11_158 m11_160 ms_8_2 m1_21 q_Mpg_stands ⟨Nat.le_of_ble_eq_true rfl, Nat.le_of_ble_eq_true rfl⟩ hl.1 rfl (Nat.le_of_ble_eq_true rfl) d_Mpg_isNamed_21 ⟨Nat.le_of_ble_eq_true rfl, Nat.le_of_ble_eq_true rfl⟩) hw hA (fun v10 p9 H locs hp9 hw => ?_) | (refine px_calli (pr := []) (px_runV (As := [.int z8, .ref sk]) (rest := []) S (c_mp_standsS l D cs sk sn sb h r g tf ta pf na ma wa cf ca ef ea xf xa z8  (show 0 ≤ (tf 5).toInt from by first | exact oz_3e80f65ba7 hb_p0.2.2.1 hb_p0.1 hb_p0.2.1 | omega) (show (tf 5).toInt ≤ 2048 from by first | exact hb_p0.2.2.2 | omega) (show 0 ≤ z8.toInt from by first | exact oz_f3ebed1ad0 rz8 hb_p0.1 | omega) (show z8.toInt ≤ 4000 from by first | exact oz_27a4de8aa9 rz8 hb_p0.2.2.1 hb_p0.2.1 hb_p0.2.2.2 | omega) (show sn ≤ 100 from by first | exact g3 | omega) _) hT (pr := []) (pcs := [wdP cs h r g tf ta pf na ma wa cf ca ef ea xf xa]) hw (oX_call (P := (fun A U H => (oP A g U H) ∧ (StLt A sk sn sb U H))) (pr := []) (oG_and oG_P oG_QB) hw hA ⟨hP, ⟨_, hQ1⟩⟩) (px_recv hT hw 0 0 rfl rfl rfl) m11_161 m11_158 m11_160 ms_8_2 m1_21 q_Mpg_stands ⟨Nat.le_of_ble_eq_true rfl, Nat.le_of_ble_eq_true rfl⟩ hl.1 rfl (Nat.le_of_ble_eq_true rfl) d_Mpg_isNamed_21 ⟨Nat.le_of_ble_eq_true rfl, Nat.le_of_ble_eq_true rfl⟩) hw hA (fun v10 p9 H locs hp9 hw => ?_))
    obtain ⟨rfl, e11, e12, e13⟩ := hp9
    have e11 := z_rng e11
    have e12 : v10.toInt = 1 → z8.toInt + (sn : Int) ≤ (tf 5).toInt ∨ (sn : Int) = 0 := e12
    have e13 : R_mp_standsS sn sb tf ta z8 v10 := e13
    have lv10 := Int32.le_toInt v10
    have uv10 := Int32.toInt_lt v10
    refine lv_if_eq (tgt := 31) S.x S.b d_Mpg_isNamed_24 (by decide) (fun c14 => ?_) (fun c14 => ?_)
    · have nc14 : v10.toInt = (0 : Int) := (i_eq (x := v10) (y := 0)).mp c14
      refine lv_iconst (v := 0) S.x S.b d_Mpg_isNamed_31 (by decide) ?_
      exact px_iret (v := 0) S hr rfl hlk hAe hw (Nat.le_of_ble_eq_true rfl) (Nat.le_of_ble_eq_true rfl) (⟨rfl, (show (0 : Int32) = 0 ∨ (0 : Int32) = 1 from by first | exact Or.inl rfl | exact Or.inr rfl | exact z_or (by omega)), (show R_mp_isNamed sn sb tf ta p0 (0 : Int32) from (Or.inl ⟨z1, ez1, v3, e5, Or.inr ⟨nc6, z8, ez8, v10, e13, Or.inl ⟨nc14, rfl⟩⟩⟩))⟩) d_Mpg_isNamed_32
    · have nc14 : ¬ v10.toInt = (0 : Int) := mt (i_eq (x := v10) (y := 0)).mpr c14
      refine lv_iconst (v := 1) S.x S.b d_Mpg_isNamed_27 (by decide) ?_
      refine lv_goto (tgt := 32) S.x S.b d_Mpg_isNamed_28 (by decide) ?_
      exact px_iret (v := 1) S hr rfl hlk hAe hw (Nat.le_of_ble_eq_true rfl) (Nat.le_of_ble_eq_true rfl) (⟨rfl, (show (1 : Int32) = 0 ∨ (1 : Int32) = 1 from by first | exact Or.inl rfl | exact Or.inr rfl | exact z_or (by omega)), (show R_mp_isNamed sn sb tf ta p0 (1 : Int32) from (Or.inl ⟨z1, ez1, v3, e5, Or.inr ⟨nc6, z8, ez8, v10, e13, Or.inr ⟨nc14, rfl⟩⟩⟩))⟩) d_Mpg_isNamed_32
abbrev b_Mpg_find : ByteArray := prog_16_method_66_code
def y_Mpg_find : MethodName := ⟨"HomeSystemModel$Program", "find", "(II)I"⟩
theorem d_Mpg_find_0 : decode b_Mpg_find 0 = .ok (.aload_n 0, 1) := by decide +kernel
theorem d_Mpg_find_1 : decode b_Mpg_find 1 = .ok (.getfield 528, 3) := by decide +kernel
theorem d_Mpg_find_4 : decode b_Mpg_find 4 = .ok (.iconst 1, 1) := by decide +kernel
theorem d_Mpg_find_5 : decode b_Mpg_find 5 = .ok (.isub, 1) := by decide +kernel
theorem d_Mpg_find_6 : decode b_Mpg_find 6 = .ok (.istore_n 3, 1) := by decide +kernel
theorem d_Mpg_find_7 : decode b_Mpg_find 7 = .ok (.iload_n 3, 1) := by decide +kernel
theorem d_Mpg_find_8 : decode b_Mpg_find 8 = .ok (.iload_n 2, 1) := by decide +kernel
theorem d_Mpg_find_9 : decode b_Mpg_find 9 = .ok (.if_icmp .lt 23, 3) := by decide +kernel
theorem d_Mpg_find_12 : decode b_Mpg_find 12 = .ok (.aload_n 0, 1) := by decide +kernel
theorem d_Mpg_find_13 : decode b_Mpg_find 13 = .ok (.aload_n 0, 1) := by decide +kernel
theorem d_Mpg_find_14 : decode b_Mpg_find 14 = .ok (.getfield 246, 3) := by decide +kernel
theorem d_Mpg_find_17 : decode b_Mpg_find 17 = .ok (.iload_n 3, 1) := by decide +kernel
theorem d_Mpg_find_18 : decode b_Mpg_find 18 = .ok (.iaload, 1) := by decide +kernel
theorem d_Mpg_find_19 : decode b_Mpg_find 19 = .ok (.iload_n 1, 1) := by decide +kernel
theorem d_Mpg_find_20 : decode b_Mpg_find 20 = .ok (.invokevirtual 531, 3) := by decide +kernel
theorem d_Mpg_find_23 : decode b_Mpg_find 23 = .ok (.ifCond .ne 9, 3) := by decide +kernel
theorem d_Mpg_find_26 : decode b_Mpg_find 26 = .ok (.iinc 3 (-1), 3) := by decide +kernel
theorem d_Mpg_find_29 : decode b_Mpg_find 29 = .ok (.goto (-22), 3) := by decide +kernel
theorem d_Mpg_find_32 : decode b_Mpg_find 32 = .ok (.iload_n 3, 1) := by decide +kernel
theorem d_Mpg_find_33 : decode b_Mpg_find 33 = .ok (.iload_n 2, 1) := by decide +kernel
theorem d_Mpg_find_34 : decode b_Mpg_find 34 = .ok (.if_icmp .lt 7, 3) := by decide +kernel
theorem d_Mpg_find_37 : decode b_Mpg_find 37 = .ok (.iload_n 3, 1) := by decide +kernel
theorem d_Mpg_find_38 : decode b_Mpg_find 38 = .ok (.goto 4, 3) := by decide +kernel
theorem d_Mpg_find_41 : decode b_Mpg_find 41 = .ok (.iconst (-1), 1) := by decide +kernel
theorem d_Mpg_find_42 : decode b_Mpg_find 42 = .ok (.ireturn, 1) := by decide +kernel
theorem q_Mpg_find : px_y y_Mpg_find 2 := by unfold px_y; decide +kernel
set_option maxHeartbeats 4000000 in
set_option maxRecDepth 100000 in
theorem c_mp_find (l : Launch) (D : va_G) (cs : Nat → ClassId) (h : Nat) (r : Nat → Nat) (g : Nat → Nat → Option Nat) (tf : Nat → Int32) (ta : Nat → Nat → Int32) (pf : Nat → Int32) (na : Nat → Nat → Int32) (ma : Nat → Nat → Int32) (wa : Nat → Nat → Int32) (cf : Nat → Int32) (ca : Nat → Nat → Int32) (ef : Nat → Int32) (ea : Nat → Nat → Int32) (xf : Nat → Int32) (xa : Nat → Nat → Int32) (p0 p1 : Int32)  (g0 : 0 ≤ p0.toInt) (g1 : p0.toInt < (tf 6).toInt) (g2 : (tf 6).toInt ≤ 2049) (g3 : 0 ≤ p1.toInt) (g4 : 0 ≤ (cf 33).toInt) (htk : TkI tf ta) (hkt : KnT (tf 6).toInt ca (cf 33).toInt) : MetI l y_Mpg_find b_Mpg_find 4 (.int) D cs 1 40 (0) (0) [.ref h, .int p0, .int p1] [wdP cs h r g tf ta pf na ma wa cf ca ef ea xf xa] (fun _ => True) (fun v ps => (ps = [wdP cs h r g tf ta pf na ma wa cf ca ef ea xf xa]) ∧ (-1 ≤ v.toInt) ∧ (v.toInt < (cf 33).toInt) ∧ (0 ≤ v.toInt → p1.toInt ≤ v.toInt) ∧ (FndV ta ca (cf 33).toInt p0 p1.toInt v.toInt) ∧ (R_mp_find ta cf ca p0 p1 v)) := by
  refine px_enter (by decide) (Nat.le_of_ble_eq_true rfl) ?_
  intro p e s m below meth c A ls hAe S hr hlk hnm hA hT hX hw hl
  have hl : lv_has ls 4 [(0, .ref h), (1, .int p0), (2, .int p1)] := hl
  have lp0 := Int32.le_toInt p0
  have up0 := Int32.toInt_lt p0
  have lp1 := Int32.le_toInt p1
  have up1 := Int32.toInt_lt p1
  have cstm1 : ((-1) : Int32).toInt = (-1) := rfl
  have cst1 : (1 : Int32).toInt = 1 := rfl
  have hk11 := hkt.1
  have J7 : ∀ (n_7 : Nat)  (x7_3 : Int32) (H : Heap) (locs : List Loc) (ls : Array Slot), (x7_3.toInt < (cf 33).toInt) → (-1 ≤ x7_3.toInt) → (FnL ta ca (cf 33).toInt p0 x7_3.toInt) → (K_mp_find_7 ta cf ca p0 p1 x7_3) → x7_3.toInt + 1 < (n_7 : Int) → pw D A s.heap H locs [wdP cs h r g tf ta pf na ma wa cf ca ef ea xf xa] → lv_has ls 4 [(0, .ref h), (1, .int p0), (2, .int p1), (3, .int x7_3)] → W p l e { frames := 1, cells := 0, slots := 0, locals := 40 } s m [.ref h, .int p0, .int p1].toArray below meth c H locs 0 0 (MQ below (va_Qi (fun v ps => (ps = [wdP cs h r g tf ta pf na ma wa cf ca ef ea xf xa]) ∧ (-1 ≤ v.toInt) ∧ (v.toInt < (cf 33).toInt) ∧ (0 ≤ v.toInt → p1.toInt ≤ v.toInt) ∧ (FndV ta ca (cf 33).toInt p0 p1.toInt v.toInt) ∧ (R_mp_find ta cf ca p0 p1 v)) (pc_B D (va_A ([wdP cs h r g tf ta pf na ma wa cf ca ef ea xf xa] : List va_W).flatten s.heap.size)) (va_A ([wdP cs h r g tf ta pf na ma wa cf ca ef ea xf xa] : List va_W).flatten s.heap.size)) [.ref h, .int p0, .int p1].toArray s 0 0 A) (F0 m 7 ls []) := by
    intro  n_7
    induction n_7 with
    | zero =>
      intro x7_3 H locs ls k7_0 k7_1 k7_2 k7_3 hm hw hl
      have lx7_3 := Int32.le_toInt x7_3
      have ux7_3 := Int32.toInt_lt x7_3
      have hfl := k7_2
      exact absurd hm (by omega)
    | succ n_7 ih7 =>
      intro x7_3 H locs ls k7_0 k7_1 k7_2 k7_3 hm hw hl
      have lx7_3 := Int32.le_toInt x7_3
      have ux7_3 := Int32.toInt_lt x7_3
      have hfl := k7_2
      refine lv_iload_n S.x S.b d_Mpg_find_7 rfl (lv_at hl 3 rfl) ?_
      refine lv_iload_n S.x S.b d_Mpg_find_8 rfl (lv_at hl 2 rfl) ?_
      refine lv_icmp_lt (tgt := 32) S.x S.b d_Mpg_find_9 (by decide) (fun c1 => ?_) (fun c1 => ?_)
      · have nc1 : x7_3.toInt < p1.toInt := (i_lt (x := x7_3) (y := p1)).mp c1
        refine lv_iload_n S.x S.b d_Mpg_find_32 rfl (lv_at hl 3 rfl) ?_
        refine lv_iload_n S.x S.b d_Mpg_find_33 rfl (lv_at hl 2 rfl) ?_
        refine lv_icmp_lt (tgt := 41) S.x S.b d_Mpg_find_34 (by decide) (fun c3 => ?_) (fun c3 => ?_)
        · have nc3 : x7_3.toInt < p1.toInt := (i_lt (x := x7_3) (y := p1)).mp c3
          refine lv_iconst (v := (-1)) S.x S.b d_Mpg_find_41 (by decide) ?_
          first | exact px_iret (v := (-1)) S hr rfl hlk hAe hw (Nat.le_of_ble_eq_true rfl) (Nat.le_of_ble_eq_true rfl) (⟨rfl, (show -1 ≤ (-1 : Int) from oz_268d846349), (show (-1 : Int) < (cf 33).toInt from (oz_3309f2ef92 k7_0 k7_1)), (show 0 ≤ (-1 : Int) → p1.toInt ≤ (-1 : Int) from by omega), (show FndV ta ca (cf 33).toInt p0 p1.toInt (-1 : Int) from (fnd_none hfl (by omega))), (show R_mp_find ta cf ca p0 p1 (-1 : Int32) from (k7_3 _ 1 (Or.inr (Or.inl ⟨rfl, x7_3, rfl, rfl, rfl, rfl, rfl, Or.inl ⟨nc1, Or.inl ⟨nc3, rfl⟩⟩⟩))))⟩) d_Mpg_find_42 | (exact px_iret (v := (-1)) S hr rfl hlk hAe hw (Nat.le_of_ble_eq_true rfl) (Nat.le_of_ble_eq_true rfl) (⟨rfl, (show -1 ≤ (-1 : Int) from by first | exact oz_268d846349 | omega), (show (-1 : Int) < (cf 33).toInt from by first | exact oz_3309f2ef92 k7_0 k7_1 | omega), (show 0 ≤ (-1 : Int) → p1.toInt ≤ (-1 : Int) from by omega), (show FndV ta ca (cf 33).toInt p0 p1.toInt (-1 : Int) from (fnd_none hfl (by omega))), (show R_mp_find ta cf ca p0 p1 (-1 : Int32) from (k7_3 _ 1 (Or.inr (Or.inl ⟨rfl, x7_3, rfl, rfl, rfl, rfl, rfl, Or.inl ⟨nc1, Or.inl ⟨nc3, rfl⟩⟩⟩))))⟩) d_Mpg_find_42)
        · have nc3 : ¬ x7_3.toInt < p1.toInt := mt (i_lt (x := x7_3) (y := p1)).mpr c3
          refine lv_iload_n S.x S.b d_Mpg_find_37 rfl (lv_at hl 3 rfl) ?_
          refine lv_goto (tgt := 42) S.x S.b d_Mpg_find_38 (by decide) ?_
          first | exact px_iret (v := x7_3) S hr rfl hlk hAe hw (Nat.le_of_ble_eq_true rfl) (Nat.le_of_ble_eq_true rfl) (⟨rfl, (show -1 ≤ x7_3.toInt from k7_1), (show x7_3.toInt < (cf 33).toInt from k7_0), (show 0 ≤ x7_3.toInt → p1.toInt ≤ x7_3.toInt from (fun q9 => oz_fe9501d02d nc3)), (show FndV ta ca (cf 33).toInt p0 p1.toInt x7_3.toInt from (by first | exact fnd_some hfl ezz hsv (by omega) (by omega) (by omega) (by omega) | (exfalso; omega))), (show R_mp_find ta cf ca p0 p1 x7_3 from (k7_3 _ 1 (Or.inr (Or.inl ⟨rfl, x7_3, rfl, rfl, rfl, rfl, rfl, Or.inl ⟨nc1, Or.inr ⟨nc3, rfl⟩⟩⟩))))⟩) d_Mpg_find_42 | (exact px_iret (v := x7_3) S hr rfl hlk hAe hw (Nat.le_of_ble_eq_true rfl) (Nat.le_of_ble_eq_true rfl) (⟨rfl, (show -1 ≤ x7_3.toInt from by first | exact k7_1 | omega), (show x7_3.toInt < (cf 33).toInt from by first | exact k7_0 | omega), (show 0 ≤ x7_3.toInt → p1.toInt ≤ x7_3.toInt from by first | exact fun q9 => oz_fe9501d02d nc3 | omega), (show FndV ta ca (cf 33).toInt p0 p1.toInt x7_3.toInt from (by first | exact fnd_some hfl ezz hsv (by omega) (by omega) (by omega) (by omega) | (exfalso; omega))), (show R_mp_find ta cf ca p0 p1 x7_3 from (k7_3 _ 1 (Or.inr (Or.inl ⟨rfl, x7_3, rfl, rfl, rfl, rfl, rfl, Or.inl ⟨nc1, Or.inr ⟨nc3, rfl⟩⟩⟩))))⟩) d_Mpg_find_42)
      · have nc1 : ¬ x7_3.toInt < p1.toInt := mt (i_lt (x := x7_3) (y := p1)).mpr c1
        refine lv_aload_n S.x S.b d_Mpg_find_12 rfl (lv_at hl 0 rfl) ?_
        refine lv_aload_n S.x S.b d_Mpg_find_13 rfl (lv_at hl 0 rfl) ?_
        refine gP_34 S hT hw 0 rfl m10_23 d_Mpg_find_14 ?_
        refine lv_iload_n S.x S.b d_Mpg_find_17 rfl (lv_at hl 3 rfl) ?_
        refine px_iald S hT hw 0 23 (n := 1100) (f := (ca 34)) rfl gp_34 (x := x7_3) (vp_in_iff.mpr (by first | exact oz_3b6b5a6571 nc1 g3 k7_0 hk11 | (constructor <;> omega))) d_Mpg_find_18 ?_
        refine lv_topi (fun z5 ez5 => ?_)
        have lz5 := Int32.le_toInt z5
        have uz5 := Int32.toInt_lt z5
        have rz5 := KnT.at hkt (x := x7_3) (by omega) (by omega) ez5
        refine lv_iload_n S.x S.b d_Mpg_find_19 rfl (lv_at hl 1 rfl) ?_
        first | refine px_calli (pr := []) (px_runV (As := [.int z5, .int p0]) (rest := []) S (c_mp_sameName l D cs h r g tf ta pf na ma wa cf ca ef ea xf xa z5 p0  (show 0 ≤ z5.toInt from rz5.1) (show z5.toInt < (tf 6).toInt from (oz_7fe81129bf rz5.2)) (show 0 ≤ p0.toInt from g0) (show p0.toInt < (tf 6).toInt from g1) (show (tf 6).toInt ≤ 2049 from g2) htk _) hT (pr := []) (pcs := [wdP cs h r g tf ta pf na ma wa cf ca ef ea xf xa]) hw px_X.tt (px_recv hT hw 0 0 rfl rfl rfl) m12_169 m12_166 m12_168 ms_11_11 m1_21 q_Mpg_sameName ⟨Nat.le_of_ble_eq_true rfl, Nat.le_of_ble_eq_true rfl⟩ hl.1 rfl (Nat.le_of_ble_eq_true rfl) d_Mpg_find_20 ⟨Nat.le_of_ble_eq_true rfl, Nat.le_of_ble_eq_true rfl⟩) hw hA (fun v7 p6 H locs hp6 hw => ?_) | (refine px_calli (pr := []) (px_runV (As := [.int z5, .int p0]) (rest := []) S (c_mp_sameName l D cs h r g tf ta pf na ma wa cf ca ef ea xf xa z5 p0  (show 0 ≤ z5.toInt from by first | exact rz5.1 | omega) (show z5.toInt < (tf 6).toInt from by first | exact oz_7fe81129bf rz5.2 | omega) (show 0 ≤ p0.toInt from by first | exact g0 | omega) (show p0.toInt < (tf 6).toInt from by first | exact g1 | omega) (show (tf 6).toInt ≤ 2049 from by first | exact g2 | omega) htk _) hT (pr := []) (pcs := [wdP cs h r g tf ta pf na ma wa cf ca ef ea xf xa]) hw px_X.tt (px_recv hT hw 0 0 rfl rfl rfl) m12_169 m12_166 m12_168 ms_11_11 m1_21 q_Mpg_sameName ⟨Nat.le_of_ble_eq_true rfl, Nat.le_of_ble_eq_true rfl⟩ hl.1 rfl (Nat.le_of_ble_eq_true rfl) d_Mpg_find_20 ⟨Nat.le_of_ble_eq_true rfl, Nat.le_of_ble_eq_true rfl⟩) hw hA (fun v7 p6 H locs hp6 hw => ?_))
        obtain ⟨rfl, e8, e9, e10⟩ := hp6
        have e8 := z_rng e8
        have e9 : SmV ta z5 p0 v7.toInt := e9
        have hsv := e9
        have e10 : R_mp_sameName ta z5 p0 v7 := e10
        have lv7 := Int32.le_toInt v7
        have uv7 := Int32.toInt_lt v7
        refine lv_if_ne (tgt := 32) S.x S.b d_Mpg_find_23 (by decide) (fun c11 => ?_) (fun c11 => ?_)
        · have nc11 : ¬ v7.toInt = (0 : Int) := mt (i_eq (x := v7) (y := 0)).mpr c11
          refine lv_iload_n S.x S.b d_Mpg_find_32 rfl (lv_at hl 3 rfl) ?_
          refine lv_iload_n S.x S.b d_Mpg_find_33 rfl (lv_at hl 2 rfl) ?_
          refine lv_icmp_lt (tgt := 41) S.x S.b d_Mpg_find_34 (by decide) (fun c13 => ?_) (fun c13 => ?_)
          · have nc13 : x7_3.toInt < p1.toInt := (i_lt (x := x7_3) (y := p1)).mp c13
            refine lv_iconst (v := (-1)) S.x S.b d_Mpg_find_41 (by decide) ?_
            first | exact px_iret (v := (-1)) S hr rfl hlk hAe hw (Nat.le_of_ble_eq_true rfl) (Nat.le_of_ble_eq_true rfl) (⟨rfl, (show -1 ≤ (-1 : Int) from oz_268d846349), (show (-1 : Int) < (cf 33).toInt from (oz_47f2fa2286 nc1 nc13)), (show 0 ≤ (-1 : Int) → p1.toInt ≤ (-1 : Int) from by omega), (show FndV ta ca (cf 33).toInt p0 p1.toInt (-1 : Int) from (fnd_none hfl (by omega))), (show R_mp_find ta cf ca p0 p1 (-1 : Int32) from (k7_3 _ 1 (Or.inr (Or.inl ⟨rfl, x7_3, rfl, rfl, rfl, rfl, rfl, Or.inr ⟨nc1, z5, ez5, v7, e10, Or.inl ⟨nc11, Or.inl ⟨nc13, rfl⟩⟩⟩⟩))))⟩) d_Mpg_find_42 | (exact px_iret (v := (-1)) S hr rfl hlk hAe hw (Nat.le_of_ble_eq_true rfl) (Nat.le_of_ble_eq_true rfl) (⟨rfl, (show -1 ≤ (-1 : Int) from by first | exact oz_268d846349 | omega), (show (-1 : Int) < (cf 33).toInt from by first | exact oz_47f2fa2286 nc1 nc13 | omega), (show 0 ≤ (-1 : Int) → p1.toInt ≤ (-1 : Int) from by omega), (show FndV ta ca (cf 33).toInt p0 p1.toInt (-1 : Int) from (fnd_none hfl (by omega))), (show R_mp_find ta cf ca p0 p1 (-1 : Int32) from (k7_3 _ 1 (Or.inr (Or.inl ⟨rfl, x7_3, rfl, rfl, rfl, rfl, rfl, Or.inr ⟨nc1, z5, ez5, v7, e10, Or.inl ⟨nc11, Or.inl ⟨nc13, rfl⟩⟩⟩⟩))))⟩) d_Mpg_find_42)
          · have nc13 : ¬ x7_3.toInt < p1.toInt := mt (i_lt (x := x7_3) (y := p1)).mpr c13
            refine lv_iload_n S.x S.b d_Mpg_find_37 rfl (lv_at hl 3 rfl) ?_
            refine lv_goto (tgt := 42) S.x S.b d_Mpg_find_38 (by decide) ?_
            first | exact px_iret (v := x7_3) S hr rfl hlk hAe hw (Nat.le_of_ble_eq_true rfl) (Nat.le_of_ble_eq_true rfl) (⟨rfl, (show -1 ≤ x7_3.toInt from k7_1), (show x7_3.toInt < (cf 33).toInt from k7_0), (show 0 ≤ x7_3.toInt → p1.toInt ≤ x7_3.toInt from (fun q9 => oz_fe9501d02d nc1)), (show FndV ta ca (cf 33).toInt p0 p1.toInt x7_3.toInt from (by first | exact fnd_some hfl ez5 hsv (by omega) (by omega) (by omega) (by omega) | (exfalso; omega))), (show R_mp_find ta cf ca p0 p1 x7_3 from (k7_3 _ 1 (Or.inr (Or.inl ⟨rfl, x7_3, rfl, rfl, rfl, rfl, rfl, Or.inr ⟨nc1, z5, ez5, v7, e10, Or.inl ⟨nc11, Or.inr ⟨nc13, rfl⟩⟩⟩⟩))))⟩) d_Mpg_find_42 | (exact px_iret (v := x7_3) S hr rfl hlk hAe hw (Nat.le_of_ble_eq_true rfl) (Nat.le_of_ble_eq_true rfl) (⟨rfl, (show -1 ≤ x7_3.toInt from by first | exact k7_1 | omega), (show x7_3.toInt < (cf 33).toInt from by first | exact k7_0 | omega), (show 0 ≤ x7_3.toInt → p1.toInt ≤ x7_3.toInt from by first | exact fun q9 => oz_fe9501d02d nc1 | omega), (show FndV ta ca (cf 33).toInt p0 p1.toInt x7_3.toInt from (by first | exact fnd_some hfl ez5 hsv (by omega) (by omega) (by omega) (by omega) | (exfalso; omega))), (show R_mp_find ta cf ca p0 p1 x7_3 from (k7_3 _ 1 (Or.inr (Or.inl ⟨rfl, x7_3, rfl, rfl, rfl, rfl, rfl, Or.inr ⟨nc1, z5, ez5, v7, e10, Or.inl ⟨nc11, Or.inr ⟨nc13, rfl⟩⟩⟩⟩))))⟩) d_Mpg_find_42)
        · have nc11 : v7.toInt = (0 : Int) := (i_eq (x := v7) (y := 0)).mp c11
          obtain ⟨z15, ez15⟩ : ∃ y : Int32, y = x7_3 + (-1) := ⟨_, rfl⟩
          have tz15 : z15.toInt = (x7_3.toInt + (-1) + 2147483648) % 4294967296 - 2147483648 := by rw [ez15]; exact i_add x7_3 (-1)
          have lz15 := Int32.le_toInt z15
          have uz15 := Int32.toInt_lt z15
          try replace tz15 : z15.toInt = x7_3.toInt + (-1) := by omega
          refine lv_iinc (v := z15) (lv' := [(3, .int z15), (0, .ref h), (1, .int p0), (2, .int p1)]) S.x S.b d_Mpg_find_26 hl (k := 3) rfl (by rw [ez15]; rfl) (by decide) rfl (fun ls hl => ?_)
          refine lv_goto (tgt := 7) S.x S.b d_Mpg_find_29 (by decide) ?_
          first | exact ih7 z15 _ _ ls (show z15.toInt < (cf 33).toInt from (oz_e9273f1cf5 k7_0 tz15)) (show -1 ≤ z15.toInt from (oz_695ad66b9c tz15 nc1 g3)) (show FnL ta ca (cf 33).toInt p0 z15.toInt from (FnL.s hfl ez5 hsv (by omega) (by omega) (by omega))) (show K_mp_find_7 ta cf ca p0 p1 z15 from (fun y_v k hE => k7_3 y_v (k + 1) (Or.inr (Or.inl ⟨rfl, x7_3, rfl, rfl, rfl, rfl, rfl, Or.inr ⟨nc1, z5, ez5, v7, e10, Or.inr ⟨nc11, z15, ez15, hE⟩⟩⟩)))) (show z15.toInt + 1 < (n_7 : Int) from (oz_3391b70925 hm tz15)) hw (lv_sub hl [1, 2, 3, 0] rfl) | (exact ih7 z15 _ _ ls (show z15.toInt < (cf 33).toInt from by first | exact oz_e9273f1cf5 k7_0 tz15 | omega) (show -1 ≤ z15.toInt from by first | exact oz_695ad66b9c tz15 nc1 g3 | omega) (show FnL ta ca (cf 33).toInt p0 z15.toInt from (FnL.s hfl ez5 hsv (by omega) (by omega) (by omega))) (show K_mp_find_7 ta cf ca p0 p1 z15 from (fun y_v k hE => k7_3 y_v (k + 1) (Or.inr (Or.inl ⟨rfl, x7_3, rfl, rfl, rfl, rfl, rfl, Or.inr ⟨nc1, z5, ez5, v7, e10, Or.inr ⟨nc11, z15, ez15, hE⟩⟩⟩)))) (show z15.toInt + 1 < (n_7 : Int) from by first | exact oz_3391b70925 hm tz15 | omega) hw (lv_sub hl [1, 2, 3, 0] rfl))
  refine lv_aload_n S.x S.b d_Mpg_find_0 rfl (lv_at hl 0 rfl) ?_
  refine gP_33 (v := (cf 33)) S hT hw 0 rfl rfl m10_22 d_Mpg_find_1 ?_
  refine lv_iconst (v := 1) S.x S.b d_Mpg_find_4 (by decide) ?_
  refine lv_isub S.x S.b d_Mpg_find_5 ?_
  have lr16 := Int32.le_toInt (cf 33)
  have ur16 := Int32.toInt_lt (cf 33)
  refine lv_topi (fun z17 ez17 => ?_)
  have tz17 : z17.toInt = ((cf 33).toInt - (1 : Int) + 2147483648) % 4294967296 - 2147483648 := by rw [ez17]; exact i_sub (cf 33) 1
  have lz17 := Int32.le_toInt z17
  have uz17 := Int32.toInt_lt z17
  try replace tz17 : z17.toInt = (cf 33).toInt - (1 : Int) := by omega
  refine lv_istore_n (lv' := [(3, .int z17), (0, .ref h), (1, .int p0), (2, .int p1)]) S.x S.b d_Mpg_find_6 rfl hl (by decide) rfl (fun ls hl => ?_)
  first | exact J7 ((z17.toInt + 1).toNat + 1) z17 _ _ ls (show z17.toInt < (cf 33).toInt from (oz_017357d48a tz17)) (show -1 ≤ z17.toInt from (oz_4dd0a70316 tz17 g4)) (show FnL ta ca (cf 33).toInt p0 z17.toInt from (fnl_0 (by omega))) (show K_mp_find_7 ta cf ca p0 p1 z17 from (fun y_v k hE => Exists.intro (k + 1) (Or.inl ⟨rfl, z17, ez17, hE⟩))) (show z17.toInt + 1 < ((((z17.toInt + 1).toNat + 1 : Nat) : Int) : Int) from oz_natlt) hw (lv_sub hl [1, 2, 3, 0] rfl) | (exact J7 ((z17.toInt + 1).toNat + 1) z17 _ _ ls (show z17.toInt < (cf 33).toInt from by first | exact oz_017357d48a tz17 | omega) (show -1 ≤ z17.toInt from by first | exact oz_4dd0a70316 tz17 g4 | omega) (show FnL ta ca (cf 33).toInt p0 z17.toInt from (fnl_0 (by omega))) (show K_mp_find_7 ta cf ca p0 p1 z17 from (fun y_v k hE => Exists.intro (k + 1) (Or.inl ⟨rfl, z17, ez17, hE⟩))) (show z17.toInt + 1 < ((((z17.toInt + 1).toNat + 1 : Nat) : Int) : Int) from by first | exact oz_natlt | omega) hw (lv_sub hl [1, 2, 3, 0] rfl))
abbrev b_Mpg_findFunction : ByteArray := prog_16_method_67_code
def y_Mpg_findFunction : MethodName := ⟨"HomeSystemModel$Program", "findFunction", "(I)I"⟩
theorem d_Mpg_findFunction_0 : decode b_Mpg_findFunction 0 = .ok (.iconst 0, 1) := by decide +kernel
theorem d_Mpg_findFunction_1 : decode b_Mpg_findFunction 1 = .ok (.istore_n 2, 1) := by decide +kernel
theorem d_Mpg_findFunction_2 : decode b_Mpg_findFunction 2 = .ok (.iload_n 2, 1) := by decide +kernel
theorem d_Mpg_findFunction_3 : decode b_Mpg_findFunction 3 = .ok (.aload_n 0, 1) := by decide +kernel
theorem d_Mpg_findFunction_4 : decode b_Mpg_findFunction 4 = .ok (.getfield 535, 3) := by decide +kernel
theorem d_Mpg_findFunction_7 : decode b_Mpg_findFunction 7 = .ok (.if_icmp .ge 30, 3) := by decide +kernel
theorem d_Mpg_findFunction_10 : decode b_Mpg_findFunction 10 = .ok (.aload_n 0, 1) := by decide +kernel
theorem d_Mpg_findFunction_11 : decode b_Mpg_findFunction 11 = .ok (.aload_n 0, 1) := by decide +kernel
theorem d_Mpg_findFunction_12 : decode b_Mpg_findFunction 12 = .ok (.getfield 210, 3) := by decide +kernel
theorem d_Mpg_findFunction_15 : decode b_Mpg_findFunction 15 = .ok (.aload_n 0, 1) := by decide +kernel
theorem d_Mpg_findFunction_16 : decode b_Mpg_findFunction 16 = .ok (.getfield 255, 3) := by decide +kernel
theorem d_Mpg_findFunction_19 : decode b_Mpg_findFunction 19 = .ok (.iload_n 2, 1) := by decide +kernel
theorem d_Mpg_findFunction_20 : decode b_Mpg_findFunction 20 = .ok (.iaload, 1) := by decide +kernel
theorem d_Mpg_findFunction_21 : decode b_Mpg_findFunction 21 = .ok (.iaload, 1) := by decide +kernel
theorem d_Mpg_findFunction_22 : decode b_Mpg_findFunction 22 = .ok (.iload_n 1, 1) := by decide +kernel
theorem d_Mpg_findFunction_23 : decode b_Mpg_findFunction 23 = .ok (.invokevirtual 531, 3) := by decide +kernel
theorem d_Mpg_findFunction_26 : decode b_Mpg_findFunction 26 = .ok (.ifCond .eq 5, 3) := by decide +kernel
theorem d_Mpg_findFunction_29 : decode b_Mpg_findFunction 29 = .ok (.iload_n 2, 1) := by decide +kernel
theorem d_Mpg_findFunction_30 : decode b_Mpg_findFunction 30 = .ok (.ireturn, 1) := by decide +kernel
theorem d_Mpg_findFunction_31 : decode b_Mpg_findFunction 31 = .ok (.iinc 2 1, 3) := by decide +kernel
theorem d_Mpg_findFunction_34 : decode b_Mpg_findFunction 34 = .ok (.goto (-32), 3) := by decide +kernel
theorem d_Mpg_findFunction_37 : decode b_Mpg_findFunction 37 = .ok (.iconst (-1), 1) := by decide +kernel
theorem d_Mpg_findFunction_38 : decode b_Mpg_findFunction 38 = .ok (.ireturn, 1) := by decide +kernel
theorem q_Mpg_findFunction : px_y y_Mpg_findFunction 1 := by unfold px_y; decide +kernel
set_option maxHeartbeats 4000000 in
set_option maxRecDepth 100000 in
theorem c_mp_findFunction (l : Launch) (D : va_G) (cs : Nat → ClassId) (h : Nat) (r : Nat → Nat) (g : Nat → Nat → Option Nat) (tf : Nat → Int32) (ta : Nat → Nat → Int32) (pf : Nat → Int32) (na : Nat → Nat → Int32) (ma : Nat → Nat → Int32) (wa : Nat → Nat → Int32) (cf : Nat → Int32) (ca : Nat → Nat → Int32) (ef : Nat → Int32) (ea : Nat → Nat → Int32) (xf : Nat → Int32) (xa : Nat → Nat → Int32) (p0 : Int32)  (g0 : 0 ≤ p0.toInt) (g1 : p0.toInt < (tf 6).toInt) (g2 : (tf 6).toInt ≤ 2049) (g3 : 0 ≤ (cf 38).toInt) (htk : TkI tf ta) (hft : FnT (tf 6).toInt na ca (cf 38).toInt) : MetI l y_Mpg_findFunction b_Mpg_findFunction 3 (.int) D cs 1 40 (0) (0) [.ref h, .int p0] [wdP cs h r g tf ta pf na ma wa cf ca ef ea xf xa] (fun _ => True) (fun v ps => (ps = [wdP cs h r g tf ta pf na ma wa cf ca ef ea xf xa]) ∧ (-1 ≤ v.toInt) ∧ (v.toInt < (cf 38).toInt) ∧ (R_mp_findFunction ta na cf ca p0 v)) := by
  refine px_enter (by decide) (Nat.le_of_ble_eq_true rfl) ?_
  intro p e s m below meth c A ls hAe S hr hlk hnm hA hT hX hw hl
  have hl : lv_has ls 3 [(0, .ref h), (1, .int p0)] := hl
  have lp0 := Int32.le_toInt p0
  have up0 := Int32.toInt_lt p0
  have cstm1 : ((-1) : Int32).toInt = (-1) := rfl
  have cst0 : (0 : Int32).toInt = 0 := rfl
  have hf11 := hft.1
  have J2 : ∀ (n_2 : Nat)  (x2_2 : Int32) (H : Heap) (locs : List Loc) (ls : Array Slot), (0 ≤ x2_2.toInt) → (x2_2.toInt ≤ (cf 38).toInt) → (K_mp_findFunction_2 ta na cf ca p0 x2_2) → (cf 38).toInt - x2_2.toInt < (n_2 : Int) → pw D A s.heap H locs [wdP cs h r g tf ta pf na ma wa cf ca ef ea xf xa] → lv_has ls 3 [(0, .ref h), (1, .int p0), (2, .int x2_2)] → W p l e { frames := 1, cells := 0, slots := 0, locals := 40 } s m [.ref h, .int p0].toArray below meth c H locs 0 0 (MQ below (va_Qi (fun v ps => (ps = [wdP cs h r g tf ta pf na ma wa cf ca ef ea xf xa]) ∧ (-1 ≤ v.toInt) ∧ (v.toInt < (cf 38).toInt) ∧ (R_mp_findFunction ta na cf ca p0 v)) (pc_B D (va_A ([wdP cs h r g tf ta pf na ma wa cf ca ef ea xf xa] : List va_W).flatten s.heap.size)) (va_A ([wdP cs h r g tf ta pf na ma wa cf ca ef ea xf xa] : List va_W).flatten s.heap.size)) [.ref h, .int p0].toArray s 0 0 A) (F0 m 2 ls []) := by
    intro  n_2
    induction n_2 with
    | zero =>
      intro x2_2 H locs ls k2_0 k2_1 k2_2 hm hw hl
      have lx2_2 := Int32.le_toInt x2_2
      have ux2_2 := Int32.toInt_lt x2_2
      exact absurd hm (by omega)
    | succ n_2 ih2 =>
      intro x2_2 H locs ls k2_0 k2_1 k2_2 hm hw hl
      have lx2_2 := Int32.le_toInt x2_2
      have ux2_2 := Int32.toInt_lt x2_2
      refine lv_iload_n S.x S.b d_Mpg_findFunction_2 rfl (lv_at hl 2 rfl) ?_
      refine lv_aload_n S.x S.b d_Mpg_findFunction_3 rfl (lv_at hl 0 rfl) ?_
      refine gP_38 (v := (cf 38)) S hT hw 0 rfl rfl m10_27 d_Mpg_findFunction_4 ?_
      refine lv_icmp_ge (tgt := 37) S.x S.b d_Mpg_findFunction_7 (by decide) (fun c1 => ?_) (fun c1 => ?_)
      · have nc1 : (cf 38).toInt ≤ x2_2.toInt := (i_le (x := (cf 38)) (y := x2_2)).mp c1
        refine lv_iconst (v := (-1)) S.x S.b d_Mpg_findFunction_37 (by decide) ?_
        first | exact px_iret (v := (-1)) S hr rfl hlk hAe hw (Nat.le_of_ble_eq_true rfl) (Nat.le_of_ble_eq_true rfl) (⟨rfl, (show -1 ≤ (-1 : Int) from oz_268d846349), (show (-1 : Int) < (cf 38).toInt from (oz_3089bf86b0 k2_1 k2_0)), (show R_mp_findFunction ta na cf ca p0 (-1 : Int32) from (k2_2 _ 1 (Or.inr (Or.inl ⟨rfl, x2_2, rfl, rfl, rfl, rfl, rfl, Or.inl ⟨nc1, rfl⟩⟩))))⟩) d_Mpg_findFunction_38 | (exact px_iret (v := (-1)) S hr rfl hlk hAe hw (Nat.le_of_ble_eq_true rfl) (Nat.le_of_ble_eq_true rfl) (⟨rfl, (show -1 ≤ (-1 : Int) from by first | exact oz_268d846349 | omega), (show (-1 : Int) < (cf 38).toInt from by first | exact oz_3089bf86b0 k2_1 k2_0 | omega), (show R_mp_findFunction ta na cf ca p0 (-1 : Int32) from (k2_2 _ 1 (Or.inr (Or.inl ⟨rfl, x2_2, rfl, rfl, rfl, rfl, rfl, Or.inl ⟨nc1, rfl⟩⟩))))⟩) d_Mpg_findFunction_38)
      · have nc1 : ¬ (cf 38).toInt ≤ x2_2.toInt := mt (i_le (x := (cf 38)) (y := x2_2)).mpr c1
        refine lv_aload_n S.x S.b d_Mpg_findFunction_10 rfl (lv_at hl 0 rfl) ?_
        refine lv_aload_n S.x S.b d_Mpg_findFunction_11 rfl (lv_at hl 0 rfl) ?_
        refine gP_15 S hT hw 0 rfl m9_239 d_Mpg_findFunction_12 ?_
        refine lv_aload_n S.x S.b d_Mpg_findFunction_15 rfl (lv_at hl 0 rfl) ?_
        refine gP_39 S hT hw 0 rfl m10_28 d_Mpg_findFunction_16 ?_
        refine lv_iload_n S.x S.b d_Mpg_findFunction_19 rfl (lv_at hl 2 rfl) ?_
        refine px_iald S hT hw 0 26 (n := 260) (f := (ca 39)) rfl gp_39 (x := x2_2) (vp_in_iff.mpr (by first | exact oz_873c269565 k2_0 nc1 hf11 | (constructor <;> omega))) d_Mpg_findFunction_20 ?_
        refine lv_topi (fun z3 ez3 => ?_)
        have lz3 := Int32.le_toInt z3
        have uz3 := Int32.toInt_lt z3
        have rz3 := FnT.at hft (x := x2_2) (by omega) (by omega) ez3
        refine px_iald S hT hw 0 11 (n := 2100) (f := (na 15)) rfl gp_15 (x := z3) (vp_in_iff.mpr (by constructor <;> omega)) d_Mpg_findFunction_21 ?_
        refine lv_topi (fun z4 ez4 => ?_)
        have lz4 := Int32.le_toInt z4
        have uz4 := Int32.toInt_lt z4
        have qz4 := rz3.2; rw [← ez4] at qz4
        refine lv_iload_n S.x S.b d_Mpg_findFunction_22 rfl (lv_at hl 1 rfl) ?_
        first | refine px_calli (pr := []) (px_runV (As := [.int z4, .int p0]) (rest := []) S (c_mp_sameName l D cs h r g tf ta pf na ma wa cf ca ef ea xf xa z4 p0  (show 0 ≤ z4.toInt from by omega) (show z4.toInt < (tf 6).toInt from by omega) (show 0 ≤ p0.toInt from g0) (show p0.toInt < (tf 6).toInt from g1) (show (tf 6).toInt ≤ 2049 from g2) htk _) hT (pr := []) (pcs := [wdP cs h r g tf ta pf na ma wa cf ca ef ea xf xa]) hw px_X.tt (px_recv hT hw 0 0 rfl rfl rfl) m12_169 m12_166 m12_168 ms_11_11 m1_21 q_Mpg_sameName ⟨Nat.le_of_ble_eq_true rfl, Nat.le_of_ble_eq_true rfl⟩ hl.1 rfl (Nat.le_of_ble_eq_true rfl) d_Mpg_findFunction_23 ⟨Nat.le_of_ble_eq_true rfl, Nat.le_of_ble_eq_true rfl⟩) hw hA (fun v6 p5 H locs hp5 hw => ?_) | (refine px_calli (pr := []) (px_runV (As := [.int z4, .int p0]) (rest := []) S (c_mp_sameName l D cs h r g tf ta pf na ma wa cf ca ef ea xf xa z4 p0  (show 0 ≤ z4.toInt from by omega) (show z4.toInt < (tf 6).toInt from by omega) (show 0 ≤ p0.toInt from by first | exact g0 | omega) (show p0.toInt < (tf 6).toInt from by first | exact g1 | omega) (show (tf 6).toInt ≤ 2049 from by first | exact g2 | omega) htk _) hT (pr := []) (pcs := [wdP cs h r g tf ta pf na ma wa cf ca ef ea xf xa]) hw px_X.tt (px_recv hT hw 0 0 rfl rfl rfl) m12_169 m12_166 m12_168 ms_11_11 m1_21 q_Mpg_sameName ⟨Nat.le_of_ble_eq_true rfl, Nat.le_of_ble_eq_true rfl⟩ hl.1 rfl (Nat.le_of_ble_eq_true rfl) d_Mpg_findFunction_23 ⟨Nat.le_of_ble_eq_true rfl, Nat.le_of_ble_eq_true rfl⟩) hw hA (fun v6 p5 H locs hp5 hw => ?_))
        obtain ⟨rfl, e7, e8, e9⟩ := hp5
        have e7 := z_rng e7
        have e8 : SmV ta z4 p0 v6.toInt := e8
        have hsv := e8
        have e9 : R_mp_sameName ta z4 p0 v6 := e9
        have lv6 := Int32.le_toInt v6
        have uv6 := Int32.toInt_lt v6
        refine lv_if_eq (tgt := 31) S.x S.b d_Mpg_findFunction_26 (by decide) (fun c10 => ?_) (fun c10 => ?_)
        · have nc10 : v6.toInt = (0 : Int) := (i_eq (x := v6) (y := 0)).mp c10
          obtain ⟨z12, ez12⟩ : ∃ y : Int32, y = x2_2 + 1 := ⟨_, rfl⟩
          have tz12 : z12.toInt = (x2_2.toInt + 1 + 2147483648) % 4294967296 - 2147483648 := by rw [ez12]; exact i_add x2_2 1
          have lz12 := Int32.le_toInt z12
          have uz12 := Int32.toInt_lt z12
          try replace tz12 : z12.toInt = x2_2.toInt + 1 := by omega
          refine lv_iinc (v := z12) (lv' := [(2, .int z12), (0, .ref h), (1, .int p0)]) S.x S.b d_Mpg_findFunction_31 hl (k := 2) rfl (by rw [ez12]; rfl) (by decide) rfl (fun ls hl => ?_)
          refine lv_goto (tgt := 2) S.x S.b d_Mpg_findFunction_34 (by decide) ?_
          first | exact ih2 z12 _ _ ls (show 0 ≤ z12.toInt from (oz_ae613611c0 tz12 k2_0)) (show z12.toInt ≤ (cf 38).toInt from (oz_b1314744c8 nc1 tz12)) (show K_mp_findFunction_2 ta na cf ca p0 z12 from (fun y_v k hE => k2_2 y_v (k + 1) (Or.inr (Or.inl ⟨rfl, x2_2, rfl, rfl, rfl, rfl, rfl, Or.inr ⟨nc1, z3, ez3, z4, ez4, v6, e9, Or.inl ⟨nc10, z12, ez12, hE⟩⟩⟩)))) (show (cf 38).toInt - z12.toInt < (n_2 : Int) from (oz_654393c63a hm tz12)) hw (lv_sub hl [1, 2, 0] rfl) | (exact ih2 z12 _ _ ls (show 0 ≤ z12.toInt from by first | exact oz_ae613611c0 tz12 k2_0 | omega) (show z12.toInt ≤ (cf 38).toInt from by first | exact oz_b1314744c8 nc1 tz12 | omega) (show K_mp_findFunction_2 ta na cf ca p0 z12 from (fun y_v k hE => k2_2 y_v (k + 1) (Or.inr (Or.inl ⟨rfl, x2_2, rfl, rfl, rfl, rfl, rfl, Or.inr ⟨nc1, z3, ez3, z4, ez4, v6, e9, Or.inl ⟨nc10, z12, ez12, hE⟩⟩⟩)))) (show (cf 38).toInt - z12.toInt < (n_2 : Int) from by first | exact oz_654393c63a hm tz12 | omega) hw (lv_sub hl [1, 2, 0] rfl))
        · have nc10 : ¬ v6.toInt = (0 : Int) := mt (i_eq (x := v6) (y := 0)).mpr c10
          refine lv_iload_n S.x S.b d_Mpg_findFunction_29 rfl (lv_at hl 2 rfl) ?_
          first | exact px_iret (v := x2_2) S hr rfl hlk hAe hw (Nat.le_of_ble_eq_true rfl) (Nat.le_of_ble_eq_true rfl) (⟨rfl, (show -1 ≤ x2_2.toInt from (oz_bd82420902 k2_0)), (show x2_2.toInt < (cf 38).toInt from (oz_e1f61422c9 nc1)), (show R_mp_findFunction ta na cf ca p0 x2_2 from (k2_2 _ 1 (Or.inr (Or.inl ⟨rfl, x2_2, rfl, rfl, rfl, rfl, rfl, Or.inr ⟨nc1, z3, ez3, z4, ez4, v6, e9, Or.inr ⟨nc10, rfl⟩⟩⟩))))⟩) d_Mpg_findFunction_30 | (exact px_iret (v := x2_2) S hr rfl hlk hAe hw (Nat.le_of_ble_eq_true rfl) (Nat.le_of_ble_eq_true rfl) (⟨rfl, (show -1 ≤ x2_2.toInt from by first | exact oz_bd82420902 k2_0 | omega), (show x2_2.toInt < (cf 38).toInt from by first | exact oz_e1f61422c9 nc1 | omega), (show R_mp_findFunction ta na cf ca p0 x2_2 from (k2_2 _ 1 (Or.inr (Or.inl ⟨rfl, x2_2, rfl, rfl, rfl, rfl, rfl, Or.inr ⟨nc1, z3, ez3, z4, ez4, v6, e9, Or.inr ⟨nc10, rfl⟩⟩⟩))))⟩) d_Mpg_findFunction_30)
  refine lv_iconst (v := 0) S.x S.b d_Mpg_findFunction_0 (by decide) ?_
  refine lv_istore_n (lv' := [(2, .int 0), (0, .ref h), (1, .int p0)]) S.x S.b d_Mpg_findFunction_1 rfl hl (by decide) rfl (fun ls hl => ?_)
  first | exact J2 (((cf 38).toInt - (0 : Int)).toNat + 1) (0 : Int32) _ _ ls (show 0 ≤ (0 : Int) from oz_5a341f00aa) (show (0 : Int) ≤ (cf 38).toInt from (oz_50c21e157e g3)) (show K_mp_findFunction_2 ta na cf ca p0 0 from (fun y_v k hE => Exists.intro (k + 1) (Or.inl ⟨rfl, hE⟩))) (show (cf 38).toInt - (0 : Int) < (((((cf 38).toInt - (0 : Int)).toNat + 1 : Nat) : Int) : Int) from oz_natlt) hw (lv_sub hl [1, 2, 0] rfl) | (exact J2 (((cf 38).toInt - (0 : Int)).toNat + 1) (0 : Int32) _ _ ls (show 0 ≤ (0 : Int) from by first | exact oz_5a341f00aa | omega) (show (0 : Int) ≤ (cf 38).toInt from by first | exact oz_50c21e157e g3 | omega) (show K_mp_findFunction_2 ta na cf ca p0 0 from (fun y_v k hE => Exists.intro (k + 1) (Or.inl ⟨rfl, hE⟩))) (show (cf 38).toInt - (0 : Int) < (((((cf 38).toInt - (0 : Int)).toNat + 1 : Nat) : Int) : Int) from by first | exact oz_natlt | omega) hw (lv_sub hl [1, 2, 0] rfl))
abbrev b_Mpg_findOwn : ByteArray := prog_16_method_68_code
def y_Mpg_findOwn : MethodName := ⟨"HomeSystemModel$Program", "findOwn", "(I)I"⟩
theorem d_Mpg_findOwn_0 : decode b_Mpg_findOwn 0 = .ok (.iconst 0, 1) := by decide +kernel
theorem d_Mpg_findOwn_1 : decode b_Mpg_findOwn 1 = .ok (.istore_n 2, 1) := by decide +kernel
theorem d_Mpg_findOwn_2 : decode b_Mpg_findOwn 2 = .ok (.iload_n 2, 1) := by decide +kernel
theorem d_Mpg_findOwn_3 : decode b_Mpg_findOwn 3 = .ok (.bipush 10, 2) := by decide +kernel
theorem d_Mpg_findOwn_5 : decode b_Mpg_findOwn 5 = .ok (.if_icmp .ge 25, 3) := by decide +kernel
theorem d_Mpg_findOwn_8 : decode b_Mpg_findOwn 8 = .ok (.aload_n 0, 1) := by decide +kernel
theorem d_Mpg_findOwn_9 : decode b_Mpg_findOwn 9 = .ok (.iload_n 1, 1) := by decide +kernel
theorem d_Mpg_findOwn_10 : decode b_Mpg_findOwn 10 = .ok (.aload_n 0, 1) := by decide +kernel
theorem d_Mpg_findOwn_11 : decode b_Mpg_findOwn 11 = .ok (.getfield 166, 3) := by decide +kernel
theorem d_Mpg_findOwn_14 : decode b_Mpg_findOwn 14 = .ok (.iload_n 2, 1) := by decide +kernel
theorem d_Mpg_findOwn_15 : decode b_Mpg_findOwn 15 = .ok (.aaload, 1) := by decide +kernel
theorem d_Mpg_findOwn_16 : decode b_Mpg_findOwn 16 = .ok (.invokevirtual 538, 3) := by decide +kernel
theorem d_Mpg_findOwn_19 : decode b_Mpg_findOwn 19 = .ok (.ifCond .eq 5, 3) := by decide +kernel
theorem d_Mpg_findOwn_22 : decode b_Mpg_findOwn 22 = .ok (.iload_n 2, 1) := by decide +kernel
theorem d_Mpg_findOwn_23 : decode b_Mpg_findOwn 23 = .ok (.ireturn, 1) := by decide +kernel
theorem d_Mpg_findOwn_24 : decode b_Mpg_findOwn 24 = .ok (.iinc 2 1, 3) := by decide +kernel
theorem d_Mpg_findOwn_27 : decode b_Mpg_findOwn 27 = .ok (.goto (-25), 3) := by decide +kernel
theorem d_Mpg_findOwn_30 : decode b_Mpg_findOwn 30 = .ok (.iconst (-1), 1) := by decide +kernel
theorem d_Mpg_findOwn_31 : decode b_Mpg_findOwn 31 = .ok (.ireturn, 1) := by decide +kernel
theorem q_Mpg_findOwn : px_y y_Mpg_findOwn 1 := by unfold px_y; decide +kernel
set_option maxHeartbeats 4000000 in
set_option maxRecDepth 100000 in
theorem c_mp_findOwn (l : Launch) (D : va_G) (cs : Nat → ClassId) (h : Nat) (r : Nat → Nat) (g : Nat → Nat → Option Nat) (tf : Nat → Int32) (ta : Nat → Nat → Int32) (pf : Nat → Int32) (na : Nat → Nat → Int32) (ma : Nat → Nat → Int32) (wa : Nat → Nat → Int32) (cf : Nat → Int32) (ca : Nat → Nat → Int32) (ef : Nat → Int32) (ea : Nat → Nat → Int32) (xf : Nat → Int32) (xa : Nat → Nat → Int32) (p0 : Int32)  (g0 : 0 ≤ p0.toInt) (g1 : p0.toInt < (tf 6).toInt) (g2 : (tf 6).toInt ≤ 2049) (htk : TkI tf ta) : MetI l y_Mpg_findOwn b_Mpg_findOwn 3 (.int) D cs 6 230 (0) (0) [.ref h, .int p0] [wdP cs h r g tf ta pf na ma wa cf ca ef ea xf xa] (oX (fun A U H => (oP A g U H)) [wdP cs h r g tf ta pf na ma wa cf ca ef ea xf xa]) (fun v ps => (ps = [wdP cs h r g tf ta pf na ma wa cf ca ef ea xf xa]) ∧ (-1 ≤ v.toInt) ∧ (v.toInt ≤ 9) ∧ (R_mp_findOwn tf ta p0 v)) := by
  refine px_enter (by decide) (Nat.le_of_ble_eq_true rfl) ?_
  intro p e s m below meth c A ls hAe S hr hlk hnm hA hT hX hw hl
  have hl : lv_has ls 3 [(0, .ref h), (1, .int p0)] := hl
  have lp0 := Int32.le_toInt p0
  have up0 := Int32.toInt_lt p0
  have cstm1 : ((-1) : Int32).toInt = (-1) := rfl
  have cst0 : (0 : Int32).toInt = 0 := rfl
  have cst10 : (10 : Int32).toInt = 10 := rfl
  have hX : (fun A U H => (oP A g U H)) A s s.heap := by rw [hAe]; exact hX
  have hP := hX
  have hZ := hP.1
  have hF0 := hP.2.1
  have J2 : ∀ (n_2 : Nat)  (x2_2 : Int32) (H : Heap) (locs : List Loc) (ls : Array Slot), (0 ≤ x2_2.toInt) → (x2_2.toInt ≤ 10) → (K_mp_findOwn_2 tf ta p0 x2_2) → 10 - x2_2.toInt < (n_2 : Int) → pw D A s.heap H locs [wdP cs h r g tf ta pf na ma wa cf ca ef ea xf xa] → lv_has ls 3 [(0, .ref h), (1, .int p0), (2, .int x2_2)] → W p l e { frames := 6, cells := 0, slots := 0, locals := 230 } s m [.ref h, .int p0].toArray below meth c H locs 0 0 (MQ below (va_Qi (fun v ps => (ps = [wdP cs h r g tf ta pf na ma wa cf ca ef ea xf xa]) ∧ (-1 ≤ v.toInt) ∧ (v.toInt ≤ 9) ∧ (R_mp_findOwn tf ta p0 v)) (pc_B D (va_A ([wdP cs h r g tf ta pf na ma wa cf ca ef ea xf xa] : List va_W).flatten s.heap.size)) (va_A ([wdP cs h r g tf ta pf na ma wa cf ca ef ea xf xa] : List va_W).flatten s.heap.size)) [.ref h, .int p0].toArray s 0 0 A) (F0 m 2 ls []) := by
    intro  n_2
    induction n_2 with
    | zero =>
      intro x2_2 H locs ls k2_0 k2_1 k2_2 hm hw hl
      have lx2_2 := Int32.le_toInt x2_2
      have ux2_2 := Int32.toInt_lt x2_2
      exact absurd hm (by omega)
    | succ n_2 ih2 =>
      intro x2_2 H locs ls k2_0 k2_1 k2_2 hm hw hl
      have lx2_2 := Int32.le_toInt x2_2
      have ux2_2 := Int32.toInt_lt x2_2
      refine lv_iload_n S.x S.b d_Mpg_findOwn_2 rfl (lv_at hl 2 rfl) ?_
      refine lv_bipush (v := 10) S.x S.b d_Mpg_findOwn_3 (by decide) ?_
      refine lv_icmp_ge (tgt := 30) S.x S.b d_Mpg_findOwn_5 (by decide) (fun c1 => ?_) (fun c1 => ?_)
      · have nc1 : (10 : Int) ≤ x2_2.toInt := (i_le (x := 10) (y := x2_2)).mp c1
        refine lv_iconst (v := (-1)) S.x S.b d_Mpg_findOwn_30 (by decide) ?_
        first | exact px_iret (v := (-1)) S hr rfl hlk hAe hw (Nat.le_of_ble_eq_true rfl) (Nat.le_of_ble_eq_true rfl) (⟨rfl, (show -1 ≤ (-1 : Int) from oz_268d846349), (show (-1 : Int) ≤ 9 from oz_23de95dee2), (show R_mp_findOwn tf ta p0 (-1 : Int32) from (k2_2 _ 1 (Or.inr (Or.inl ⟨rfl, x2_2, rfl, rfl, rfl, rfl, rfl, Or.inl ⟨nc1, rfl⟩⟩))))⟩) d_Mpg_findOwn_31 | (exact px_iret (v := (-1)) S hr rfl hlk hAe hw (Nat.le_of_ble_eq_true rfl) (Nat.le_of_ble_eq_true rfl) (⟨rfl, (show -1 ≤ (-1 : Int) from by first | exact oz_268d846349 | omega), (show (-1 : Int) ≤ 9 from by first | exact oz_23de95dee2 | omega), (show R_mp_findOwn tf ta p0 (-1 : Int32) from (k2_2 _ 1 (Or.inr (Or.inl ⟨rfl, x2_2, rfl, rfl, rfl, rfl, rfl, Or.inl ⟨nc1, rfl⟩⟩))))⟩) d_Mpg_findOwn_31)
      · have nc1 : ¬ (10 : Int) ≤ x2_2.toInt := mt (i_le (x := 10) (y := x2_2)).mpr c1
        refine lv_aload_n S.x S.b d_Mpg_findOwn_8 rfl (lv_at hl 0 rfl) ?_
        refine lv_iload_n S.x S.b d_Mpg_findOwn_9 rfl (lv_at hl 1 rfl) ?_
        refine lv_aload_n S.x S.b d_Mpg_findOwn_10 rfl (lv_at hl 0 rfl) ?_
        refine gP_2 S hT hw 0 rfl m9_226 d_Mpg_findOwn_11 ?_
        refine lv_iload_n S.x S.b d_Mpg_findOwn_14 rfl (lv_at hl 2 rfl) ?_
        first | have hclsk3 := cl_nat (x := x2_2) (k2_0) | (have hclsk3 := cl_nat (x := x2_2) (by first | exact k2_0 | omega))
        obtain ⟨sk3, hgsk3, st4, hSsk3⟩ := oP_2B hP (i := x2_2.toNatClampNeg) (by omega)
        have hmsk3 := len_2 (i := x2_2.toNatClampNeg) (by omega)
        refine px_aaldS S hT hw 0 3 11 (n := 15) (f := (g 2)) rfl rfl rfl (x := x2_2) (vp_in_iff.mpr (by first | exact oz_688ea215cd k2_0 nc1 | (constructor <;> omega))) hgsk3 d_Mpg_findOwn_15 ?_
        first | refine px_calli (pr := []) (px_runV (As := [.int p0, .ref sk3]) (rest := []) S (c_mp_isNamed l D cs sk3 (olen x2_2.toNatClampNeg) (oby x2_2.toNatClampNeg) h r g tf ta pf na ma wa cf ca ef ea xf xa p0  (show 0 ≤ p0.toInt from g0) (show p0.toInt < (tf 6).toInt from g1) (show (tf 6).toInt ≤ 2049 from g2) (show (olen x2_2.toNatClampNeg) ≤ 100 from by omega) htk _) hT (pr := []) (pcs := [wdP cs h r g tf ta pf na ma wa cf ca ef ea xf xa]) hw (oX_call (P := (fun A U H => (oP A g U H) ∧ (StLt A sk3 (olen x2_2.toNatClampNeg) (oby x2_2.toNatClampNeg) U H))) (pr := []) (oG_and oG_P oG_QB) hw hA ⟨hP, ⟨_, hSsk3⟩⟩) (px_recv hT hw 0 0 rfl rfl rfl) m12_161 m12_158 m12_160 ms_11_9 m1_21 q_Mpg_isNamed ⟨Nat.le_of_ble_eq_true rfl, Nat.le_of_ble_eq_true rfl⟩ hl.1 rfl (Nat.le_of_ble_eq_true rfl) d_Mpg_findOwn_16 ⟨Nat.le_of_ble_eq_true rfl, Nat.le_of_ble_eq_true rfl⟩) hw hA (fun v7 p6 H locs hp6 hw => ?_) | (refine px_calli (pr := []) (px_runV (As := [.int p0, .ref sk3]) (rest := []) S (c_mp_isNamed l D cs sk3 (olen x2_2.toNatClampNeg) (oby x2_2.toNatClampNeg) h r g tf ta pf na ma wa cf ca ef ea xf xa p0  (show 0 ≤ p0.toInt from by first | exact g0 | omega) (show p0.toInt < (tf 6).toInt from by first | exact g1 | omega) (show (tf 6).toInt ≤ 2049 from by first | exact g2 | omega) (show (olen x2_2.toNatClampNeg) ≤ 100 from by omega) htk _) hT (pr := []) (pcs := [wdP cs h r g tf ta pf na ma wa cf ca ef ea xf xa]) hw (oX_call (P := (fun A U H => (oP A g U H) ∧ (StLt A sk3 (olen x2_2.toNatClampNeg) (oby x2_2.toNatClampNeg) U H))) (pr := []) (oG_and oG_P oG_QB) hw hA ⟨hP, ⟨_, hSsk3⟩⟩) (px_recv hT hw 0 0 rfl rfl rfl) m12_161 m12_158 m12_160 ms_11_9 m1_21 q_Mpg_isNamed ⟨Nat.le_of_ble_eq_true rfl, Nat.le_of_ble_eq_true rfl⟩ hl.1 rfl (Nat.le_of_ble_eq_true rfl) d_Mpg_findOwn_16 ⟨Nat.le_of_ble_eq_true rfl, Nat.le_of_ble_eq_true rfl⟩) hw hA (fun v7 p6 H locs hp6 hw => ?_))
        obtain ⟨rfl, e8, e9⟩ := hp6
        have e8 := z_rng e8
        have e9 : R_mp_isNamed (olen x2_2.toNatClampNeg) (oby x2_2.toNatClampNeg) tf ta p0 v7 := e9
        have lv7 := Int32.le_toInt v7
        have uv7 := Int32.toInt_lt v7
        refine lv_if_eq (tgt := 24) S.x S.b d_Mpg_findOwn_19 (by decide) (fun c10 => ?_) (fun c10 => ?_)
        · have nc10 : v7.toInt = (0 : Int) := (i_eq (x := v7) (y := 0)).mp c10
          obtain ⟨z12, ez12⟩ : ∃ y : Int32, y = x2_2 + 1 := ⟨_, rfl⟩
          have tz12 : z12.toInt = (x2_2.toInt + 1 + 2147483648) % 4294967296 - 2147483648 := by rw [ez12]; exact i_add x2_2 1
          have lz12 := Int32.le_toInt z12
          have uz12 := Int32.toInt_lt z12
          try replace tz12 : z12.toInt = x2_2.toInt + 1 := by omega
          refine lv_iinc (v := z12) (lv' := [(2, .int z12), (0, .ref h), (1, .int p0)]) S.x S.b d_Mpg_findOwn_24 hl (k := 2) rfl (by rw [ez12]; rfl) (by decide) rfl (fun ls hl => ?_)
          refine lv_goto (tgt := 2) S.x S.b d_Mpg_findOwn_27 (by decide) ?_
          first | exact ih2 z12 _ _ ls (show 0 ≤ z12.toInt from (oz_ae613611c0 tz12 k2_0)) (show z12.toInt ≤ 10 from (oz_8adaca66a3 tz12 nc1)) (show K_mp_findOwn_2 tf ta p0 z12 from (fun y_v k hE => k2_2 y_v (k + 1) (Or.inr (Or.inl ⟨rfl, x2_2, rfl, rfl, rfl, rfl, rfl, Or.inr ⟨nc1, v7, e9, Or.inl ⟨nc10, z12, ez12, hE⟩⟩⟩)))) (show 10 - z12.toInt < (n_2 : Int) from (oz_6f9533fa33 hm tz12)) hw (lv_sub hl [1, 2, 0] rfl) | (exact ih2 z12 _ _ ls (show 0 ≤ z12.toInt from by first | exact oz_ae613611c0 tz12 k2_0 | omega) (show z12.toInt ≤ 10 from by first | exact oz_8adaca66a3 tz12 nc1 | omega) (show K_mp_findOwn_2 tf ta p0 z12 from (fun y_v k hE => k2_2 y_v (k + 1) (Or.inr (Or.inl ⟨rfl, x2_2, rfl, rfl, rfl, rfl, rfl, Or.inr ⟨nc1, v7, e9, Or.inl ⟨nc10, z12, ez12, hE⟩⟩⟩)))) (show 10 - z12.toInt < (n_2 : Int) from by first | exact oz_6f9533fa33 hm tz12 | omega) hw (lv_sub hl [1, 2, 0] rfl))
        · have nc10 : ¬ v7.toInt = (0 : Int) := mt (i_eq (x := v7) (y := 0)).mpr c10
          refine lv_iload_n S.x S.b d_Mpg_findOwn_22 rfl (lv_at hl 2 rfl) ?_
          first | exact px_iret (v := x2_2) S hr rfl hlk hAe hw (Nat.le_of_ble_eq_true rfl) (Nat.le_of_ble_eq_true rfl) (⟨rfl, (show -1 ≤ x2_2.toInt from (oz_bd82420902 k2_0)), (show x2_2.toInt ≤ 9 from (oz_0c093f6666 nc1)), (show R_mp_findOwn tf ta p0 x2_2 from (k2_2 _ 1 (Or.inr (Or.inl ⟨rfl, x2_2, rfl, rfl, rfl, rfl, rfl, Or.inr ⟨nc1, v7, e9, Or.inr ⟨nc10, rfl⟩⟩⟩))))⟩) d_Mpg_findOwn_23 | (exact px_iret (v := x2_2) S hr rfl hlk hAe hw (Nat.le_of_ble_eq_true rfl) (Nat.le_of_ble_eq_true rfl) (⟨rfl, (show -1 ≤ x2_2.toInt from by first | exact oz_bd82420902 k2_0 | omega), (show x2_2.toInt ≤ 9 from by first | exact oz_0c093f6666 nc1 | omega), (show R_mp_findOwn tf ta p0 x2_2 from (k2_2 _ 1 (Or.inr (Or.inl ⟨rfl, x2_2, rfl, rfl, rfl, rfl, rfl, Or.inr ⟨nc1, v7, e9, Or.inr ⟨nc10, rfl⟩⟩⟩))))⟩) d_Mpg_findOwn_23)
  refine lv_iconst (v := 0) S.x S.b d_Mpg_findOwn_0 (by decide) ?_
  refine lv_istore_n (lv' := [(2, .int 0), (0, .ref h), (1, .int p0)]) S.x S.b d_Mpg_findOwn_1 rfl hl (by decide) rfl (fun ls hl => ?_)
  first | exact J2 ((10 - (0 : Int)).toNat + 1) (0 : Int32) _ _ ls (show 0 ≤ (0 : Int) from oz_5a341f00aa) (show (0 : Int) ≤ 10 from oz_117e7b2a6a) (show K_mp_findOwn_2 tf ta p0 0 from (fun y_v k hE => Exists.intro (k + 1) (Or.inl ⟨rfl, hE⟩))) (show 10 - (0 : Int) < ((((10 - (0 : Int)).toNat + 1 : Nat) : Int) : Int) from oz_natlt) hw (lv_sub hl [1, 2, 0] rfl) | (exact J2 ((10 - (0 : Int)).toNat + 1) (0 : Int32) _ _ ls (show 0 ≤ (0 : Int) from by first | exact oz_5a341f00aa | omega) (show (0 : Int) ≤ 10 from by first | exact oz_117e7b2a6a | omega) (show K_mp_findOwn_2 tf ta p0 0 from (fun y_v k hE => Exists.intro (k + 1) (Or.inl ⟨rfl, hE⟩))) (show 10 - (0 : Int) < ((((10 - (0 : Int)).toNat + 1 : Nat) : Int) : Int) from by first | exact oz_natlt | omega) hw (lv_sub hl [1, 2, 0] rfl))
abbrev b_Mpg_isFunction : ByteArray := prog_16_method_69_code
def y_Mpg_isFunction : MethodName := ⟨"HomeSystemModel$Program", "isFunction", "(I)Z"⟩
theorem d_Mpg_isFunction_0 : decode b_Mpg_isFunction 0 = .ok (.aload_n 0, 1) := by decide +kernel
theorem d_Mpg_isFunction_1 : decode b_Mpg_isFunction 1 = .ok (.iload_n 1, 1) := by decide +kernel
theorem d_Mpg_isFunction_2 : decode b_Mpg_isFunction 2 = .ok (.invokevirtual 541, 3) := by decide +kernel
theorem d_Mpg_isFunction_5 : decode b_Mpg_isFunction 5 = .ok (.ifCond .ge 11, 3) := by decide +kernel
theorem d_Mpg_isFunction_8 : decode b_Mpg_isFunction 8 = .ok (.aload_n 0, 1) := by decide +kernel
theorem d_Mpg_isFunction_9 : decode b_Mpg_isFunction 9 = .ok (.iload_n 1, 1) := by decide +kernel
theorem d_Mpg_isFunction_10 : decode b_Mpg_isFunction 10 = .ok (.invokevirtual 544, 3) := by decide +kernel
theorem d_Mpg_isFunction_13 : decode b_Mpg_isFunction 13 = .ok (.ifCond .lt 7, 3) := by decide +kernel
theorem d_Mpg_isFunction_16 : decode b_Mpg_isFunction 16 = .ok (.iconst 1, 1) := by decide +kernel
theorem d_Mpg_isFunction_17 : decode b_Mpg_isFunction 17 = .ok (.goto 4, 3) := by decide +kernel
theorem d_Mpg_isFunction_20 : decode b_Mpg_isFunction 20 = .ok (.iconst 0, 1) := by decide +kernel
theorem d_Mpg_isFunction_21 : decode b_Mpg_isFunction 21 = .ok (.ireturn, 1) := by decide +kernel
theorem q_Mpg_isFunction : px_y y_Mpg_isFunction 1 := by unfold px_y; decide +kernel
set_option maxHeartbeats 4000000 in
set_option maxRecDepth 100000 in
theorem c_mp_isFunction (l : Launch) (D : va_G) (cs : Nat → ClassId) (h : Nat) (r : Nat → Nat) (g : Nat → Nat → Option Nat) (tf : Nat → Int32) (ta : Nat → Nat → Int32) (pf : Nat → Int32) (na : Nat → Nat → Int32) (ma : Nat → Nat → Int32) (wa : Nat → Nat → Int32) (cf : Nat → Int32) (ca : Nat → Nat → Int32) (ef : Nat → Int32) (ea : Nat → Nat → Int32) (xf : Nat → Int32) (xa : Nat → Nat → Int32) (p0 : Int32)  (g0 : 0 ≤ p0.toInt) (g1 : p0.toInt < (tf 6).toInt) (g2 : (tf 6).toInt ≤ 2049) (g3 : 0 ≤ (cf 38).toInt) (htk : TkI tf ta) (hft : FnT (tf 6).toInt na ca (cf 38).toInt) : MetI l y_Mpg_isFunction b_Mpg_isFunction 2 (.boolean) D cs 7 280 (0) (0) [.ref h, .int p0] [wdP cs h r g tf ta pf na ma wa cf ca ef ea xf xa] (oX (fun A U H => (oP A g U H)) [wdP cs h r g tf ta pf na ma wa cf ca ef ea xf xa]) (fun v ps => (ps = [wdP cs h r g tf ta pf na ma wa cf ca ef ea xf xa]) ∧ (v = 0 ∨ v = 1) ∧ (R_mp_isFunction tf ta na cf ca p0 v)) := by
  refine px_enter (by decide) (Nat.le_of_ble_eq_true rfl) ?_
  intro p e s m below meth c A ls hAe S hr hlk hnm hA hT hX hw hl
  have hl : lv_has ls 2 [(0, .ref h), (1, .int p0)] := hl
  have lp0 := Int32.le_toInt p0
  have up0 := Int32.toInt_lt p0
  have cst0 : (0 : Int32).toInt = 0 := rfl
  have cst1 : (1 : Int32).toInt = 1 := rfl
  have hX : (fun A U H => (oP A g U H)) A s s.heap := by rw [hAe]; exact hX
  have hP := hX
  have hZ := hP.1
  have hF0 := hP.2.1
  refine lv_aload_n S.x S.b d_Mpg_isFunction_0 rfl (lv_at hl 0 rfl) ?_
  refine lv_iload_n S.x S.b d_Mpg_isFunction_1 rfl (lv_at hl 1 rfl) ?_
  first | refine px_calli (pr := []) (px_runV (As := [.int p0]) (rest := []) S (c_mp_findFunction l D cs h r g tf ta pf na ma wa cf ca ef ea xf xa p0  (show 0 ≤ p0.toInt from g0) (show p0.toInt < (tf 6).toInt from g1) (show (tf 6).toInt ≤ 2049 from g2) (show 0 ≤ (cf 38).toInt from g3) htk (FnT.eq hft (by omega)) _) hT (pr := []) (pcs := [wdP cs h r g tf ta pf na ma wa cf ca ef ea xf xa]) hw px_X.tt (px_recv hT hw 0 0 rfl rfl rfl) m12_165 m12_162 m12_164 ms_11_10 m1_21 q_Mpg_findFunction ⟨Nat.le_of_ble_eq_true rfl, Nat.le_of_ble_eq_true rfl⟩ hl.1 rfl (Nat.le_of_ble_eq_true rfl) d_Mpg_isFunction_2 ⟨Nat.le_of_ble_eq_true rfl, Nat.le_of_ble_eq_true rfl⟩) hw hA (fun v2 p1 H locs hp1 hw => ?_) | (refine px_calli (pr := []) (px_runV (As := [.int p0]) (rest := []) S (c_mp_findFunction l D cs h r g tf ta pf na ma wa cf ca ef ea xf xa p0  (show 0 ≤ p0.toInt from by first | exact g0 | omega) (show p0.toInt < (tf 6).toInt from by first | exact g1 | omega) (show (tf 6).toInt ≤ 2049 from by first | exact g2 | omega) (show 0 ≤ (cf 38).toInt from by first | exact g3 | omega) htk (FnT.eq hft (by omega)) _) hT (pr := []) (pcs := [wdP cs h r g tf ta pf na ma wa cf ca ef ea xf xa]) hw px_X.tt (px_recv hT hw 0 0 rfl rfl rfl) m12_165 m12_162 m12_164 ms_11_10 m1_21 q_Mpg_findFunction ⟨Nat.le_of_ble_eq_true rfl, Nat.le_of_ble_eq_true rfl⟩ hl.1 rfl (Nat.le_of_ble_eq_true rfl) d_Mpg_isFunction_2 ⟨Nat.le_of_ble_eq_true rfl, Nat.le_of_ble_eq_true rfl⟩) hw hA (fun v2 p1 H locs hp1 hw => ?_))
  obtain ⟨rfl, e3, e4, e5⟩ := hp1
  have e3 : -1 ≤ v2.toInt := e3
  have e4 : v2.toInt < (cf 38).toInt := e4
  have e5 : R_mp_findFunction ta na cf ca p0 v2 := e5
  have lv2 := Int32.le_toInt v2
  have uv2 := Int32.toInt_lt v2
  refine lv_if_ge (tgt := 16) S.x S.b d_Mpg_isFunction_5 (by decide) (fun c6 => ?_) (fun c6 => ?_)
  · have nc6 : (0 : Int) ≤ v2.toInt := (i_le (x := 0) (y := v2)).mp c6
    refine lv_iconst (v := 1) S.x S.b d_Mpg_isFunction_16 (by decide) ?_
    refine lv_goto (tgt := 21) S.x S.b d_Mpg_isFunction_17 (by decide) ?_
    exact px_iret (v := 1) S hr rfl hlk hAe hw (Nat.le_of_ble_eq_true rfl) (Nat.le_of_ble_eq_true rfl) (⟨rfl, (show (1 : Int32) = 0 ∨ (1 : Int32) = 1 from by first | exact Or.inl rfl | exact Or.inr rfl | exact z_or (by omega)), (show R_mp_isFunction tf ta na cf ca p0 (1 : Int32) from (Or.inl ⟨v2, e5, Or.inl ⟨nc6, rfl⟩⟩))⟩) d_Mpg_isFunction_21
  · have nc6 : ¬ (0 : Int) ≤ v2.toInt := mt (i_le (x := 0) (y := v2)).mpr c6
    refine lv_aload_n S.x S.b d_Mpg_isFunction_8 rfl (lv_at hl 0 rfl) ?_
    refine lv_iload_n S.x S.b d_Mpg_isFunction_9 rfl (lv_at hl 1 rfl) ?_
    first | refine px_calli (pr := []) (px_runV (As := [.int p0]) (rest := []) S (c_mp_findOwn l D cs h r g tf ta pf na ma wa cf ca ef ea xf xa p0  (show 0 ≤ p0.toInt from g0) (show p0.toInt < (tf 6).toInt from g1) (show (tf 6).toInt ≤ 2049 from g2) htk _) hT (pr := []) (pcs := [wdP cs h r g tf ta pf na ma wa cf ca ef ea xf xa]) hw (oX_call (P := (fun A U H => (oP A g U H))) (pr := []) oG_P hw hA hP) (px_recv hT hw 0 0 rfl rfl rfl) m12_157 m12_154 m12_156 ms_11_8 m1_21 q_Mpg_findOwn ⟨Nat.le_of_ble_eq_true rfl, Nat.le_of_ble_eq_true rfl⟩ hl.1 rfl (Nat.le_of_ble_eq_true rfl) d_Mpg_isFunction_10 ⟨Nat.le_of_ble_eq_true rfl, Nat.le_of_ble_eq_true rfl⟩) hw hA (fun v9 p8 H locs hp8 hw => ?_) | (refine px_calli (pr := []) (px_runV (As := [.int p0]) (rest := []) S (c_mp_findOwn l D cs h r g tf ta pf na ma wa cf ca ef ea xf xa p0  (show 0 ≤ p0.toInt from by first | exact g0 | omega) (show p0.toInt < (tf 6).toInt from by first | exact g1 | omega) (show (tf 6).toInt ≤ 2049 from by first | exact g2 | omega) htk _) hT (pr := []) (pcs := [wdP cs h r g tf ta pf na ma wa cf ca ef ea xf xa]) hw (oX_call (P := (fun A U H => (oP A g U H))) (pr := []) oG_P hw hA hP) (px_recv hT hw 0 0 rfl rfl rfl) m12_157 m12_154 m12_156 ms_11_8 m1_21 q_Mpg_findOwn ⟨Nat.le_of_ble_eq_true rfl, Nat.le_of_ble_eq_true rfl⟩ hl.1 rfl (Nat.le_of_ble_eq_true rfl) d_Mpg_isFunction_10 ⟨Nat.le_of_ble_eq_true rfl, Nat.le_of_ble_eq_true rfl⟩) hw hA (fun v9 p8 H locs hp8 hw => ?_))
    obtain ⟨rfl, e10, e11, e12⟩ := hp8
    have e10 : -1 ≤ v9.toInt := e10
    have e11 : v9.toInt ≤ 9 := e11
    have e12 : R_mp_findOwn tf ta p0 v9 := e12
    have lv9 := Int32.le_toInt v9
    have uv9 := Int32.toInt_lt v9
    refine lv_if_lt (tgt := 20) S.x S.b d_Mpg_isFunction_13 (by decide) (fun c13 => ?_) (fun c13 => ?_)
    · have nc13 : v9.toInt < (0 : Int) := (i_lt (x := v9) (y := 0)).mp c13
      refine lv_iconst (v := 0) S.x S.b d_Mpg_isFunction_20 (by decide) ?_
      exact px_iret (v := 0) S hr rfl hlk hAe hw (Nat.le_of_ble_eq_true rfl) (Nat.le_of_ble_eq_true rfl) (⟨rfl, (show (0 : Int32) = 0 ∨ (0 : Int32) = 1 from by first | exact Or.inl rfl | exact Or.inr rfl | exact z_or (by omega)), (show R_mp_isFunction tf ta na cf ca p0 (0 : Int32) from (Or.inl ⟨v2, e5, Or.inr ⟨nc6, v9, e12, Or.inl ⟨nc13, rfl⟩⟩⟩))⟩) d_Mpg_isFunction_21
    · have nc13 : ¬ v9.toInt < (0 : Int) := mt (i_lt (x := v9) (y := 0)).mpr c13
      refine lv_iconst (v := 1) S.x S.b d_Mpg_isFunction_16 (by decide) ?_
      refine lv_goto (tgt := 21) S.x S.b d_Mpg_isFunction_17 (by decide) ?_
      exact px_iret (v := 1) S hr rfl hlk hAe hw (Nat.le_of_ble_eq_true rfl) (Nat.le_of_ble_eq_true rfl) (⟨rfl, (show (1 : Int32) = 0 ∨ (1 : Int32) = 1 from by first | exact Or.inl rfl | exact Or.inr rfl | exact z_or (by omega)), (show R_mp_isFunction tf ta na cf ca p0 (1 : Int32) from (Or.inl ⟨v2, e5, Or.inr ⟨nc6, v9, e12, Or.inr ⟨nc13, rfl⟩⟩⟩))⟩) d_Mpg_isFunction_21
abbrev b_Mpg_first : ByteArray := prog_16_method_73_code
def y_Mpg_first : MethodName := ⟨"HomeSystemModel$Program", "first", "(I)I"⟩
theorem d_Mpg_first_0 : decode b_Mpg_first 0 = .ok (.aload_n 0, 1) := by decide +kernel
theorem d_Mpg_first_1 : decode b_Mpg_first 1 = .ok (.getfield 213, 3) := by decide +kernel
theorem d_Mpg_first_4 : decode b_Mpg_first 4 = .ok (.iload_n 1, 1) := by decide +kernel
theorem d_Mpg_first_5 : decode b_Mpg_first 5 = .ok (.iaload, 1) := by decide +kernel
theorem d_Mpg_first_6 : decode b_Mpg_first 6 = .ok (.ireturn, 1) := by decide +kernel
theorem q_Mpg_first : px_y y_Mpg_first 1 := by unfold px_y; decide +kernel
set_option maxHeartbeats 4000000 in
set_option maxRecDepth 100000 in
theorem c_mp_first (l : Launch) (D : va_G) (cs : Nat → ClassId) (h : Nat) (r : Nat → Nat) (g : Nat → Nat → Option Nat) (tf : Nat → Int32) (ta : Nat → Nat → Int32) (pf : Nat → Int32) (na : Nat → Nat → Int32) (ma : Nat → Nat → Int32) (wa : Nat → Nat → Int32) (cf : Nat → Int32) (ca : Nat → Nat → Int32) (ef : Nat → Int32) (ea : Nat → Nat → Int32) (xf : Nat → Int32) (xa : Nat → Nat → Int32) (p0 : Int32)  (g0 : 0 ≤ p0.toInt) (g1 : p0.toInt < (pf 13).toInt) (g2 : (pf 13).toInt ≤ 2100) (htk : TkI tf ta) (hfs : FsI (tf 6).toInt (pf 13).toInt na) : MetI l y_Mpg_first b_Mpg_first 2 (.int) D cs 0 0 (0) (0) [.ref h, .int p0] [wdP cs h r g tf ta pf na ma wa cf ca ef ea xf xa] (fun _ => True) (fun v ps => (ps = [wdP cs h r g tf ta pf na ma wa cf ca ef ea xf xa]) ∧ (0 ≤ v.toInt) ∧ (v.toInt < (tf 6).toInt) ∧ (R_mp_first na p0 v)) := by
  refine px_enter (by decide) (Nat.le_of_ble_eq_true rfl) ?_
  intro p e s m below meth c A ls hAe S hr hlk hnm hA hT hX hw hl
  have hl : lv_has ls 2 [(0, .ref h), (1, .int p0)] := hl
  have lp0 := Int32.le_toInt p0
  have up0 := Int32.toInt_lt p0
  refine lv_aload_n S.x S.b d_Mpg_first_0 rfl (lv_at hl 0 rfl) ?_
  refine gP_16 S hT hw 0 rfl m10_0 d_Mpg_first_1 ?_
  refine lv_iload_n S.x S.b d_Mpg_first_4 rfl (lv_at hl 1 rfl) ?_
  refine px_iald S hT hw 0 12 (n := 2100) (f := (na 16)) rfl gp_16 (x := p0) (vp_in_iff.mpr (by first | exact oz_2c9cd128cc g0 g1 g2 | (constructor <;> omega))) d_Mpg_first_5 ?_
  refine lv_topi (fun z1 ez1 => ?_)
  have lz1 := Int32.le_toInt z1
  have uz1 := Int32.toInt_lt z1
  have rz1 := FsI.at hfs (x := p0) (by omega) (by omega) ez1
  first | exact px_iret (v := z1) S hr rfl hlk hAe hw (Nat.le_of_ble_eq_true rfl) (Nat.le_of_ble_eq_true rfl) (⟨rfl, (show 0 ≤ z1.toInt from rz1.1), (show z1.toInt < (tf 6).toInt from (oz_7fe81129bf rz1.2)), (show R_mp_first na p0 z1 from (Or.inl ⟨z1, ez1, rfl⟩))⟩) d_Mpg_first_6 | (exact px_iret (v := z1) S hr rfl hlk hAe hw (Nat.le_of_ble_eq_true rfl) (Nat.le_of_ble_eq_true rfl) (⟨rfl, (show 0 ≤ z1.toInt from by first | exact rz1.1 | omega), (show z1.toInt < (tf 6).toInt from by first | exact oz_7fe81129bf rz1.2 | omega), (show R_mp_first na p0 z1 from (Or.inl ⟨z1, ez1, rfl⟩))⟩) d_Mpg_first_6)
