/-! WHAT LIES OUTSIDE: strings of the constant pool, statics: read only, never in a world -/
def oT (A : Nat → Prop) (t N : Nat) (b : Nat → Int32) (U : State) (H : Heap) : Prop := va_T .byte t N (fun j => .int (b j)) A U H
def oS (A : Nat → Prop) (k t N : Nat) (b : Nat → Int32) (U : State) (H : Heap) : Prop := va_O "java/lang/String" k A U H ∧ va_OF "java/lang/String" "coder" "B" (.int 0) k A U H ∧ va_OF "java/lang/String" "value" "[B" (.ref t) k A U H ∧ oT A t N b U H
def oZ (A : Nat → Prop) (U : State) (H : Heap) : Prop := va_Z "java/lang/String" "COMPACT_STRINGS" "Z" (.int 1) A U H
def oF (A : Nat → Prop) (U : State) (H : Heap) : Prop := va_Zq "jdk/internal/util/Preconditions" "SIOOBE_FORMATTER" "Ljava/util/function/BiFunction;" A U H
/-- such a thing goes along: P A U H for what may not change -/
def oG (P : (Nat → Prop) → State → Heap → Prop) : Prop := (∀ {A : Nat → Prop} {u U : State} {H : Heap}, u.WarmedH U.vm → P A u H → P A U H) ∧ (∀ {A : Nat → Prop} {u U : State} {H : Heap}, U.vm = u.vm → P A u H → P A U H) ∧ (∀ {A : Nat → Prop} {U : State} {H H1 : Heap}, P A U H → (∀ a : Nat, a < H.size → ¬ A a → H1[a]? = H[a]?) → P A U H1) ∧ ∀ {A B : Nat → Prop} {U : State} {H : Heap}, P A U H → (∀ q, B q → A q) → P B U H
theorem oG_of {P : (Nat → Prop) → State → Heap → Prop} (h1 : ∀ {A : Nat → Prop} {u U : State} {H : Heap}, u.vm.Alike U.vm → P A u H → P A U H) (h2 : ∀ {A : Nat → Prop} {U : State} {H H1 : Heap}, P A U H → (∀ a : Nat, a < H.size → ¬ A a → H1[a]? = H[a]?) → P A U H1) (h3 : ∀ {A B : Nat → Prop} {U : State} {H : Heap}, P A U H → (∀ q, B q → A q) → P B U H) : oG P :=
  ⟨fun h x => h1 h.alike x, fun h x => h1 (by rw [h]; exact Vm.Alike.refl _) x, h2, h3⟩
theorem oG_T {t N : Nat} {b : Nat → Int32} : oG (fun A U H => oT A t N b U H) := oG_of (fun h x => va_T.moved h x) (fun x h => va_T.kept x h) (fun x h => va_T.narrow x h)
theorem oG_Z : oG oZ := oG_of (fun h x => va_Z.moved h x) (fun x h => va_Z.kept x h) (fun x h => va_Z.narrow x h)
theorem oG_F : oG oF := oG_of (fun h x => by rcases x with x | ⟨t, x⟩; exact Or.inl (va_Z.moved h x); exact Or.inr ⟨t, va_Z.moved h x⟩) (fun x h => by rcases x with x | ⟨t, x⟩; exact Or.inl (va_Z.kept x h); exact Or.inr ⟨t, va_Z.kept x h⟩) (fun x h => by rcases x with x | ⟨t, x⟩; exact Or.inl (va_Z.narrow x h); exact Or.inr ⟨t, va_Z.narrow x h⟩)
theorem oG_S {k t N : Nat} {b : Nat → Int32} : oG (fun A U H => oS A k t N b U H) := oG_of (fun h x => ⟨va_O.moved h x.1, va_OF.moved h x.2.1, va_OF.moved h x.2.2.1, va_T.moved h x.2.2.2⟩) (fun x h => ⟨va_O.kept x.1 h, va_OF.kept x.2.1 h, va_OF.kept x.2.2.1 h, va_T.kept x.2.2.2 h⟩) (fun x h => ⟨va_O.narrow x.1 h, va_OF.narrow x.2.1 h, va_OF.narrow x.2.2.1 h, va_T.narrow x.2.2.2 h⟩)
theorem oG_L {own tx : String} {k a : Nat} : oG (fun _ U _ => vk_R own k tx a U) := ⟨fun h x => vk_R.warm h x, fun h x => vk_R.same h x, fun x _ => x, fun x _ => x⟩
theorem oG_and {P Q : (Nat → Prop) → State → Heap → Prop} (hP : oG P) (hQ : oG Q) : oG (fun A U H => P A U H ∧ Q A U H) := ⟨fun h x => ⟨hP.1 h x.1, hQ.1 h x.2⟩, fun h x => ⟨hP.2.1 h x.1, hQ.2.1 h x.2⟩, fun x h => ⟨hP.2.2.1 x.1 h, hQ.2.2.1 x.2 h⟩, fun x h => ⟨hP.2.2.2 x.1 h, hQ.2.2.2 x.2 h⟩⟩
/-- a contract's start: P of what lies outside its parts -/
def oX (P : (Nat → Prop) → State → Heap → Prop) (ps : List va_W) (U : State) : Prop := P (va_A ps.flatten U.heap.size) U U.heap
theorem oX_call {P : (Nat → Prop) → State → Heap → Prop} (hG : oG P) {D : va_G} {A : Nat → Prop} {s : State} {H : Heap} {locs : List Loc} {pr pcs : List va_W} (hw : pw D A s.heap H locs (pr ++ pcs)) (hA : ∀ q, s.heap.size ≤ q → A q) (h : P A s s.heap) : px_X (oX P pcs) s H :=
  ⟨fun U g mk a x => hG.2.1 (u := U) (U := U.calling g mk a) rfl x, fun U hU hW => by
    have h1 := hG.2.2.1 h (H1 := H) hw.2.2.2.1
    have h2 := hG.1 hW h1
    show P (va_A pcs.flatten U.heap.size) U U.heap
    rw [hU]
    exact hG.2.2.2 h2 (pp_free hw.2.1 hw.2.2 hA)⟩
theorem oS_recv {A : Nat → Prop} {k t N : Nat} {b : Nat → Int32} {s : State} {H : Heap} {D : va_G} {locs : List Loc} {ps : List va_W} (hw : pw D A s.heap H locs ps) (h : oS A k t N b s s.heap) : ∃ cell : Cell, H[k]? = some cell ∧ cell.vm.isStatics = false ∧ s.vm.findClass "java/lang/String" = some cell.cls := by
  obtain ⟨cell, h1, h2, h3, -⟩ := va_O.kept h.1 hw.2.2.2.1
  exact ⟨cell, h1, h2, h3⟩
